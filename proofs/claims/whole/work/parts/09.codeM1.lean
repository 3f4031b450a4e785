section
theorem e_M_four {h : xH} {d : Nat} {x1 : Int32} {S : xSt} {K : xSt → Prop}  (H : B_M_four_3 h d x1 24 S K) : M_M_four h d x1 S K := by
  refine x_enter pn_X12 (Nat.le_of_ble_eq_true rfl) ?_
  show X (gM h) _ _ 0 [(0, .ref (x_ad (gM h) 0)), (1, .int x1)] [] S _
  refine x_bipush (x_at tdX12_four 0 rfl) k_b_24 ?_
  refine x_istore_n (x_at tdX12_four 1 rfl) rfl (by decide) ?_
  refine x_weak (lv' := [(0, .ref (x_ad (gM h) 0)), (1, .int x1), (2, .int 24)]) ⟨rfl, rfl, rfl, trivial⟩ ?_
  exact H
theorem b_M_four_3 {h : xH} {d : Nat}  {x1 : Int32} {x2 : Int32} {S : xSt} {K : xSt → Prop}  (H : ((x2 < 0 → K S) ∧ (¬ x2 < 0 → (vp_in (S.1 0 1) 1600 ∧ B_M_four_3 h d x1 (x2 + (-8)) (x_putI (x_putI S 1 ((S.1 0 1) : Int32).toNatClampNeg ((x1 >>> (x2 &&& 31)) &&& (255 : Int32))) 0 1 ((S.1 0 1) + (1 : Int32))) K)))) : B_M_four_3 h d x1 x2 S K := by
  unfold B_M_four_3
  refine x_iload_n (x_at tdX12_four 2 rfl) rfl rfl ?_
  refine x_if_lt 39 (x_at tdX12_four 3 rfl) rfl (fun c => ?_) (fun c => ?_)
  · have H := H.1 c
    exact x_return rfl (x_at tdX12_four 22 rfl) ⟨rfl, H⟩
  · have H := H.2 c
    refine x_aload_n (x_at tdX12_four 4 rfl) rfl rfl ?_
    refine gfM_0_0 (x_at tdX12_four 5 rfl) wf_X12_7 ?_
    refine x_aload_n (x_at tdX12_four 6 rfl) rfl rfl ?_
    refine gfM_0_1 (x_at tdX12_four 7 rfl) wf_X12_172 ?_
    refine x_iload_n (x_at tdX12_four 8 rfl) rfl rfl ?_
    refine x_iload_n (x_at tdX12_four 9 rfl) rfl rfl ?_
    refine x_ishr (x_at tdX12_four 10 rfl) ?_
    refine x_sipush (x_at tdX12_four 11 rfl) k_s_255 ?_
    refine x_iand (x_at tdX12_four 12 rfl) ?_
    refine x_iast (lM_1 h) (x_at tdX12_four 13 rfl) H.1 ?_
    have H := H.2
    refine x_aload_n (x_at tdX12_four 14 rfl) rfl rfl ?_
    refine x_dup (x_at tdX12_four 15 rfl) rfl ?_
    refine gfM_0_1 (x_at tdX12_four 16 rfl) wf_X12_172 ?_
    refine x_top (v := (S.1 0 1)) rfl ?_
    refine x_iconst (x_at tdX12_four 17 rfl) k_c_1 ?_
    refine x_iadd (x_at tdX12_four 18 rfl) ?_
    refine pfM_0_1 (x_at tdX12_four 19 rfl) wf_X12_172 ?_
    refine x_iinc (x_at tdX12_four 20 rfl) rfl (k_inc_m8 _) (by decide) ?_
    refine x_goto 3 (x_at tdX12_four 21 rfl) rfl ?_
    refine x_weak (lv' := [(0, .ref (x_ad (gM h) 0)), (1, .int x1), (2, .int (x2 + (-8)))]) ⟨rfl, rfl, rfl, trivial⟩ ?_
    exact H
theorem e_M_feed {h : xH} {d : Nat} {x1 : Int32} {x2 : Int32} {x3 : Int32} {x4 : Int32} {x5 : Int32} {S : xSt} {K : Int32 → xSt → Prop}  (H : ((((S.1 0 1) + (20 : Int32)) ≤ 1600 → M_M_four h d x1 S (fun (S1 : xSt) => M_M_four h d x2 S1 (fun (S2 : xSt) => M_M_four h d x3 S2 (fun (S3 : xSt) => M_M_four h d x4 S3 (fun (S4 : xSt) => M_M_four h d x5 S4 (fun (S5 : xSt) => K (S5.1 0 1) S5)))))) ∧ (¬ ((S.1 0 1) + (20 : Int32)) ≤ 1600 → K (-1) S))) : M_M_feed h d x1 x2 x3 x4 x5 S K := by
  refine x_enter pn_X12 (Nat.le_of_ble_eq_true rfl) ?_
  show X (gM h) _ _ 0 [(0, .ref (x_ad (gM h) 0)), (1, .int x1), (2, .int x2), (3, .int x3), (4, .int x4), (5, .int x5)] [] S _
  refine x_aload_n (x_at tdX12_feed 0 rfl) rfl rfl ?_
  refine gfM_0_1 (x_at tdX12_feed 1 rfl) wf_X12_172 ?_
  refine x_bipush (x_at tdX12_feed 2 rfl) k_b_20 ?_
  refine x_iadd (x_at tdX12_feed 3 rfl) ?_
  refine x_sipush (x_at tdX12_feed 4 rfl) k_s_1600 ?_
  refine x_ic_le 15 (x_at tdX12_feed 5 rfl) rfl (fun c => ?_) (fun c => ?_)
  · have H := H.1 c
    refine x_aload_n (x_at tdX12_feed 8 rfl) rfl rfl ?_
    refine x_iload_n (x_at tdX12_feed 9 rfl) rfl rfl ?_
    refine x_cVv (as := [.int x1]) (rest := []) mi_X12_four vc_12 (lM_0 h) (x_at tdX12_feed 10 rfl) wm_X12_175 rfl (Nat.le_of_ble_eq_true rfl) rfl H (fun S1 H => ?_)
    refine x_aload_n (x_at tdX12_feed 11 rfl) rfl rfl ?_
    refine x_iload_n (x_at tdX12_feed 12 rfl) rfl rfl ?_
    refine x_cVv (as := [.int x2]) (rest := []) mi_X12_four vc_12 (lM_0 h) (x_at tdX12_feed 13 rfl) wm_X12_175 rfl (Nat.le_of_ble_eq_true rfl) rfl H (fun S2 H => ?_)
    refine x_aload_n (x_at tdX12_feed 14 rfl) rfl rfl ?_
    refine x_iload_n (x_at tdX12_feed 15 rfl) rfl rfl ?_
    refine x_cVv (as := [.int x3]) (rest := []) mi_X12_four vc_12 (lM_0 h) (x_at tdX12_feed 16 rfl) wm_X12_175 rfl (Nat.le_of_ble_eq_true rfl) rfl H (fun S3 H => ?_)
    refine x_aload_n (x_at tdX12_feed 17 rfl) rfl rfl ?_
    refine x_iload (x_at tdX12_feed 18 rfl) rfl ?_
    refine x_cVv (as := [.int x4]) (rest := []) mi_X12_four vc_12 (lM_0 h) (x_at tdX12_feed 19 rfl) wm_X12_175 rfl (Nat.le_of_ble_eq_true rfl) rfl H (fun S4 H => ?_)
    refine x_aload_n (x_at tdX12_feed 20 rfl) rfl rfl ?_
    refine x_iload (x_at tdX12_feed 21 rfl) rfl ?_
    refine x_cVv (as := [.int x5]) (rest := []) mi_X12_four vc_12 (lM_0 h) (x_at tdX12_feed 22 rfl) wm_X12_175 rfl (Nat.le_of_ble_eq_true rfl) rfl H (fun S5 H => ?_)
    refine x_aload_n (x_at tdX12_feed 23 rfl) rfl rfl ?_
    refine gfM_0_1 (x_at tdX12_feed 24 rfl) wf_X12_172 ?_
    exact x_ireturn (ty := .int) rfl rfl (x_at tdX12_feed 25 rfl) ⟨_, rfl, H⟩
  · have H := H.2 c
    refine x_iconst (x_at tdX12_feed 6 rfl) k_c_m1 ?_
    exact x_ireturn (ty := .int) rfl rfl (x_at tdX12_feed 7 rfl) ⟨_, rfl, H⟩
theorem e_M_end {h : xH} {d : Nat} {x1 : Int32} {S : xSt} {K : Int32 → xSt → Prop}  (H : ((x1 < 0 → K (-1) S) ∧ (¬ x1 < 0 → ((x1 ≤ (S.1 0 1) → K x1 (x_putI S 0 1 x1)) ∧ (¬ x1 ≤ (S.1 0 1) → K (-1) S))))) : M_M_end h d x1 S K := by
  refine x_enter pn_X12 (Nat.le_of_ble_eq_true rfl) ?_
  show X (gM h) _ _ 0 [(0, .ref (x_ad (gM h) 0)), (1, .int x1)] [] S _
  refine x_iload_n (x_at tdX12_end 0 rfl) rfl rfl ?_
  refine x_if_lt 12 (x_at tdX12_end 1 rfl) rfl (fun c => ?_) (fun c => ?_)
  · have H := H.1 c
    refine x_iconst (x_at tdX12_end 6 rfl) k_c_m1 ?_
    exact x_ireturn (ty := .int) rfl rfl (x_at tdX12_end 7 rfl) ⟨_, rfl, H⟩
  · have H := H.2 c
    refine x_iload_n (x_at tdX12_end 2 rfl) rfl rfl ?_
    refine x_aload_n (x_at tdX12_end 3 rfl) rfl rfl ?_
    refine gfM_0_1 (x_at tdX12_end 4 rfl) wf_X12_172 ?_
    refine x_ic_le 14 (x_at tdX12_end 5 rfl) rfl (fun c => ?_) (fun c => ?_)
    · have H := H.1 c
      refine x_aload_n (x_at tdX12_end 8 rfl) rfl rfl ?_
      refine x_iload_n (x_at tdX12_end 9 rfl) rfl rfl ?_
      refine pfM_0_1 (x_at tdX12_end 10 rfl) wf_X12_172 ?_
      refine x_iload_n (x_at tdX12_end 11 rfl) rfl rfl ?_
      exact x_ireturn (ty := .int) rfl rfl (x_at tdX12_end 12 rfl) ⟨_, rfl, H⟩
    · have H := H.2 c
      refine x_iconst (x_at tdX12_end 6 rfl) k_c_m1 ?_
      exact x_ireturn (ty := .int) rfl rfl (x_at tdX12_end 7 rfl) ⟨_, rfl, H⟩
theorem e_M_isWord {h : xH} {d : Nat} {x1 : Int64} {S : xSt} {K : Int32 → xSt → Prop}  (H : ((¬ (S.1 0 6) = 1 → K 0 S) ∧ ((S.1 0 6) = 1 → ((¬ (S.2.1 0 9) = x1 → K 0 S) ∧ ((S.2.1 0 9) = x1 → K 1 S))))) : M_M_isWord h d x1 S K := by
  refine x_enter pn_X12 (Nat.le_of_ble_eq_true rfl) ?_
  show X (gM h) _ _ 0 [(0, .ref (x_ad (gM h) 0)), (1, .long x1)] [] S _
  refine x_aload_n (x_at tdX12_isWord 0 rfl) rfl rfl ?_
  refine gfM_0_6 (x_at tdX12_isWord 1 rfl) wf_X12_199 ?_
  refine x_iconst (x_at tdX12_isWord 2 rfl) k_c_1 ?_
  refine x_ic_ne 21 (x_at tdX12_isWord 3 rfl) rfl (fun c => ?_) (fun c => ?_)
  · have H := H.1 c
    refine x_iconst (x_at tdX12_isWord 11 rfl) k_c_0 ?_
    exact x_ireturn (ty := .boolean) rfl zb0.1 (x_at tdX12_isWord 12 rfl) ⟨_, rfl, H⟩
  · have H := H.2 c
    refine x_aload_n (x_at tdX12_isWord 4 rfl) rfl rfl ?_
    refine gfM_0_9 (x_at tdX12_isWord 5 rfl) wf_X12_192 ?_
    refine x_lload_n (x_at tdX12_isWord 6 rfl) rfl rfl ?_
    refine x_lc_ne 21 (x_at tdX12_isWord 7 rfl) (x_at tdX12_isWord 8 rfl) rfl (fun c => ?_) (fun c => ?_)
    · have H := H.1 c
      refine x_iconst (x_at tdX12_isWord 11 rfl) k_c_0 ?_
      exact x_ireturn (ty := .boolean) rfl zb0.1 (x_at tdX12_isWord 12 rfl) ⟨_, rfl, H⟩
    · have H := H.2 c
      refine x_iconst (x_at tdX12_isWord 9 rfl) k_c_1 ?_
      refine x_goto 22 (x_at tdX12_isWord 10 rfl) rfl ?_
      exact x_ireturn (ty := .boolean) rfl zb1.1 (x_at tdX12_isWord 12 rfl) ⟨_, rfl, H⟩
theorem e_M_find {h : xH} {d : Nat} {x1 : Int32} {x2 : Int32} {S : xSt} {K : Int32 → xSt → Prop}  (H : B_M_find_5 h d x1 x2 (-1) 0 S K) : M_M_find h d x1 x2 S K := by
  refine x_enter pn_X12 (Nat.le_of_ble_eq_true rfl) ?_
  show X (gM h) _ _ 0 [(0, .ref (x_ad (gM h) 0)), (1, .int x1), (2, .int x2)] [] S _
  refine x_iconst (x_at tdX12_find 0 rfl) k_c_m1 ?_
  refine x_istore_n (x_at tdX12_find 1 rfl) rfl (by decide) ?_
  refine x_iconst (x_at tdX12_find 2 rfl) k_c_0 ?_
  refine x_istore (x_at tdX12_find 3 rfl) (by decide) ?_
  refine x_weak (lv' := [(0, .ref (x_ad (gM h) 0)), (1, .int x1), (2, .int x2), (3, .int (-1)), (4, .int 0)]) ⟨rfl, rfl, rfl, rfl, rfl, trivial⟩ ?_
  exact H
theorem b_M_find_5 {h : xH} {d : Nat}  {x1 : Int32} {x2 : Int32} {x3 : Int32} {x4 : Int32} {S : xSt} {K : Int32 → xSt → Prop}  (H : ((x2 ≤ x4 → K x3 S) ∧ (¬ x2 ≤ x4 → (vp_in (x1 + x4) 22 ∧ ((¬ (S.2.1 2 ((x1 + x4) : Int32).toNatClampNeg) = (S.2.1 0 9) → B_M_find_34 h d x1 x2 x4 x3 S K) ∧ ((S.2.1 2 ((x1 + x4) : Int32).toNatClampNeg) = (S.2.1 0 9) → B_M_find_34 h d x1 x2 x4 x4 S K)))))) : B_M_find_5 h d x1 x2 x3 x4 S K := by
  unfold B_M_find_5
  refine x_iload (x_at tdX12_find 4 rfl) rfl ?_
  refine x_iload_n (x_at tdX12_find 5 rfl) rfl rfl ?_
  refine x_ic_ge 41 (x_at tdX12_find 6 rfl) rfl (fun c => ?_) (fun c => ?_)
  · have H := H.1 c
    refine x_iload_n (x_at tdX12_find 23 rfl) rfl rfl ?_
    exact x_ireturn (ty := .int) rfl rfl (x_at tdX12_find 24 rfl) ⟨_, rfl, H⟩
  · have H := H.2 c
    refine x_aload_n (x_at tdX12_find 7 rfl) rfl rfl ?_
    refine gfM_0_10 (x_at tdX12_find 8 rfl) wf_X12_17 ?_
    refine x_iload_n (x_at tdX12_find 9 rfl) rfl rfl ?_
    refine x_iload (x_at tdX12_find 10 rfl) rfl ?_
    refine x_iadd (x_at tdX12_find 11 rfl) ?_
    refine x_lald (lM_2 h) (x_at tdX12_find 12 rfl) H.1 ?_
    have H := H.2
    refine x_aload_n (x_at tdX12_find 13 rfl) rfl rfl ?_
    refine gfM_0_9 (x_at tdX12_find 14 rfl) wf_X12_192 ?_
    refine x_lc_ne 33 (x_at tdX12_find 15 rfl) (x_at tdX12_find 16 rfl) rfl (fun c => ?_) (fun c => ?_)
    · have H := H.1 c
      refine x_iload_n (x_at tdX12_find 19 rfl) rfl rfl ?_
      refine x_weak (lv' := [(0, .ref (x_ad (gM h) 0)), (1, .int x1), (2, .int x2), (4, .int x4)]) ⟨rfl, rfl, rfl, rfl, trivial⟩ ?_
      exact H
    · have H := H.2 c
      refine x_iload (x_at tdX12_find 17 rfl) rfl ?_
      refine x_goto 34 (x_at tdX12_find 18 rfl) rfl ?_
      refine x_weak (lv' := [(0, .ref (x_ad (gM h) 0)), (1, .int x1), (2, .int x2), (4, .int x4)]) ⟨rfl, rfl, rfl, rfl, trivial⟩ ?_
      exact H
theorem b_M_find_34 {h : xH} {d : Nat}  {x1 : Int32} {x2 : Int32} {x4 : Int32} {s0 : Int32} {S : xSt} {K : Int32 → xSt → Prop}  (H : B_M_find_5 h d x1 x2 s0 (x4 + 1) S K) : B_M_find_34 h d x1 x2 x4 s0 S K := by
  unfold B_M_find_34
  refine x_istore_n (x_at tdX12_find 20 rfl) rfl (by decide) ?_
  refine x_iinc (x_at tdX12_find 21 rfl) rfl (k_inc_1 _) (by decide) ?_
  refine x_goto 5 (x_at tdX12_find 22 rfl) rfl ?_
  refine x_weak (lv' := [(0, .ref (x_ad (gM h) 0)), (1, .int x1), (2, .int x2), (3, .int s0), (4, .int (x4 + 1))]) ⟨rfl, rfl, rfl, rfl, rfl, trivial⟩ ?_
  exact H
theorem e_M_isOwn {h : xH} {d : Nat}  {S : xSt} {K : Int32 → xSt → Prop}  (H : (((S.2.1 0 9) = 7168366 → K 1 S) ∧ (¬ (S.2.1 0 9) = 7168366 → (((S.2.1 0 9) = 109330211763570 → K 1 S) ∧ (¬ (S.2.1 0 9) = 109330211763570 → (((S.2.1 0 9) = 448545973619 → K 1 S) ∧ (¬ (S.2.1 0 9) = 448545973619 → (((S.2.1 0 9) = 1818584692 → K 1 S) ∧ (¬ (S.2.1 0 9) = 1818584692 → (((S.2.1 0 9) = 1684366692 → K 1 S) ∧ (¬ (S.2.1 0 9) = 1684366692 → (((S.2.1 0 9) = 448546566771 → K 1 S) ∧ (¬ (S.2.1 0 9) = 448546566771 → (((S.2.1 0 9) = 108256604483438 → K 1 S) ∧ (¬ (S.2.1 0 9) = 108256604483438 → (((S.2.1 0 9) = 28526 → K 1 S) ∧ (¬ (S.2.1 0 9) = 28526 → (((S.2.1 0 9) = 25209 → K 1 S) ∧ (¬ (S.2.1 0 9) = 25209 → (((S.2.1 0 9) = 1685022067 → K 1 S) ∧ (¬ (S.2.1 0 9) = 1685022067 → (((S.2.1 0 9) = 474148660594 → K 1 S) ∧ (¬ (S.2.1 0 9) = 474148660594 → (((S.2.1 0 9) = 504364296556 → K 1 S) ∧ (¬ (S.2.1 0 9) = 504364296556 → (((S.2.1 0 9) = 127991944667492 → K 1 S) ∧ (¬ (S.2.1 0 9) = 127991944667492 → (((S.2.1 0 9) = 418330731890 → K 1 S) ∧ (¬ (S.2.1 0 9) = 418330731890 → (((S.2.1 0 9) = 112641580559972 → K 1 S) ∧ (¬ (S.2.1 0 9) = 112641580559972 → (((S.2.1 0 9) = 2003132786 → K 1 S) ∧ (¬ (S.2.1 0 9) = 2003132786 → (((S.2.1 0 9) = 6578553 → K 1 S) ∧ (¬ (S.2.1 0 9) = 6578553 → (((S.2.1 0 9) = 495874699885 → K 1 S) ∧ (¬ (S.2.1 0 9) = 495874699885 → (((S.2.1 0 9) = 1685217655 → K 1 S) ∧ (¬ (S.2.1 0 9) = 1685217655 → (((S.2.1 0 9) = 6385252 → K 1 S) ∧ (¬ (S.2.1 0 9) = 6385252 → (((S.2.1 0 9) = 28530 → K 1 S) ∧ (¬ (S.2.1 0 9) = 28530 → ((¬ (S.2.1 0 9) = 7237492 → K 0 S) ∧ ((S.2.1 0 9) = 7237492 → K 1 S))))))))))))))))))))))))))))))))))))))))))))) : M_M_isOwn h d S K := by
  refine x_enter pn_X12 (Nat.le_of_ble_eq_true rfl) ?_
  show X (gM h) _ _ 0 [(0, .ref (x_ad (gM h) 0))] [] S _
  refine x_aload_n (x_at tdX12_isOwn 0 rfl) rfl rfl ?_
  refine gfM_0_9 (x_at tdX12_isOwn 1 rfl) wf_X12_192 ?_
  refine x_ldc2 (x_at tdX12_isOwn 2 rfl) wk_X12_215 ?_
  refine x_lc_eq 242 (x_at tdX12_isOwn 3 rfl) (x_at tdX12_isOwn 4 rfl) rfl (fun c => ?_) (fun c => ?_)
  · have H := H.1 c
    refine x_iconst (x_at tdX12_isOwn 110 rfl) k_c_1 ?_
    refine x_goto 247 (x_at tdX12_isOwn 111 rfl) rfl ?_
    exact x_ireturn (ty := .boolean) rfl zb1.1 (x_at tdX12_isOwn 113 rfl) ⟨_, rfl, H⟩
  · have H := H.2 c
    refine x_aload_n (x_at tdX12_isOwn 5 rfl) rfl rfl ?_
    refine gfM_0_9 (x_at tdX12_isOwn 6 rfl) wf_X12_192 ?_
    refine x_ldc2 (x_at tdX12_isOwn 7 rfl) wk_X12_217 ?_
    refine x_lc_eq 242 (x_at tdX12_isOwn 8 rfl) (x_at tdX12_isOwn 9 rfl) rfl (fun c => ?_) (fun c => ?_)
    · have H := H.1 c
      refine x_iconst (x_at tdX12_isOwn 110 rfl) k_c_1 ?_
      refine x_goto 247 (x_at tdX12_isOwn 111 rfl) rfl ?_
      exact x_ireturn (ty := .boolean) rfl zb1.1 (x_at tdX12_isOwn 113 rfl) ⟨_, rfl, H⟩
    · have H := H.2 c
      refine x_aload_n (x_at tdX12_isOwn 10 rfl) rfl rfl ?_
      refine gfM_0_9 (x_at tdX12_isOwn 11 rfl) wf_X12_192 ?_
      refine x_ldc2 (x_at tdX12_isOwn 12 rfl) wk_X12_219 ?_
      refine x_lc_eq 242 (x_at tdX12_isOwn 13 rfl) (x_at tdX12_isOwn 14 rfl) rfl (fun c => ?_) (fun c => ?_)
      · have H := H.1 c
        refine x_iconst (x_at tdX12_isOwn 110 rfl) k_c_1 ?_
        refine x_goto 247 (x_at tdX12_isOwn 111 rfl) rfl ?_
        exact x_ireturn (ty := .boolean) rfl zb1.1 (x_at tdX12_isOwn 113 rfl) ⟨_, rfl, H⟩
      · have H := H.2 c
        refine x_aload_n (x_at tdX12_isOwn 15 rfl) rfl rfl ?_
        refine gfM_0_9 (x_at tdX12_isOwn 16 rfl) wf_X12_192 ?_
        refine x_ldc2 (x_at tdX12_isOwn 17 rfl) wk_X12_221 ?_
        refine x_lc_eq 242 (x_at tdX12_isOwn 18 rfl) (x_at tdX12_isOwn 19 rfl) rfl (fun c => ?_) (fun c => ?_)
        · have H := H.1 c
          refine x_iconst (x_at tdX12_isOwn 110 rfl) k_c_1 ?_
          refine x_goto 247 (x_at tdX12_isOwn 111 rfl) rfl ?_
          exact x_ireturn (ty := .boolean) rfl zb1.1 (x_at tdX12_isOwn 113 rfl) ⟨_, rfl, H⟩
        · have H := H.2 c
          refine x_aload_n (x_at tdX12_isOwn 20 rfl) rfl rfl ?_
          refine gfM_0_9 (x_at tdX12_isOwn 21 rfl) wf_X12_192 ?_
          refine x_ldc2 (x_at tdX12_isOwn 22 rfl) wk_X12_223 ?_
          refine x_lc_eq 242 (x_at tdX12_isOwn 23 rfl) (x_at tdX12_isOwn 24 rfl) rfl (fun c => ?_) (fun c => ?_)
          · have H := H.1 c
            refine x_iconst (x_at tdX12_isOwn 110 rfl) k_c_1 ?_
            refine x_goto 247 (x_at tdX12_isOwn 111 rfl) rfl ?_
            exact x_ireturn (ty := .boolean) rfl zb1.1 (x_at tdX12_isOwn 113 rfl) ⟨_, rfl, H⟩
          · have H := H.2 c
            refine x_aload_n (x_at tdX12_isOwn 25 rfl) rfl rfl ?_
            refine gfM_0_9 (x_at tdX12_isOwn 26 rfl) wf_X12_192 ?_
            refine x_ldc2 (x_at tdX12_isOwn 27 rfl) wk_X12_225 ?_
            refine x_lc_eq 242 (x_at tdX12_isOwn 28 rfl) (x_at tdX12_isOwn 29 rfl) rfl (fun c => ?_) (fun c => ?_)
            · have H := H.1 c
              refine x_iconst (x_at tdX12_isOwn 110 rfl) k_c_1 ?_
              refine x_goto 247 (x_at tdX12_isOwn 111 rfl) rfl ?_
              exact x_ireturn (ty := .boolean) rfl zb1.1 (x_at tdX12_isOwn 113 rfl) ⟨_, rfl, H⟩
            · have H := H.2 c
              refine x_aload_n (x_at tdX12_isOwn 30 rfl) rfl rfl ?_
              refine gfM_0_9 (x_at tdX12_isOwn 31 rfl) wf_X12_192 ?_
              refine x_ldc2 (x_at tdX12_isOwn 32 rfl) wk_X12_227 ?_
              refine x_lc_eq 242 (x_at tdX12_isOwn 33 rfl) (x_at tdX12_isOwn 34 rfl) rfl (fun c => ?_) (fun c => ?_)
              · have H := H.1 c
                refine x_iconst (x_at tdX12_isOwn 110 rfl) k_c_1 ?_
                refine x_goto 247 (x_at tdX12_isOwn 111 rfl) rfl ?_
                exact x_ireturn (ty := .boolean) rfl zb1.1 (x_at tdX12_isOwn 113 rfl) ⟨_, rfl, H⟩
              · have H := H.2 c
                refine x_aload_n (x_at tdX12_isOwn 35 rfl) rfl rfl ?_
                refine gfM_0_9 (x_at tdX12_isOwn 36 rfl) wf_X12_192 ?_
                refine x_ldc2 (x_at tdX12_isOwn 37 rfl) wk_X12_229 ?_
                refine x_lc_eq 242 (x_at tdX12_isOwn 38 rfl) (x_at tdX12_isOwn 39 rfl) rfl (fun c => ?_) (fun c => ?_)
                · have H := H.1 c
                  refine x_iconst (x_at tdX12_isOwn 110 rfl) k_c_1 ?_
                  refine x_goto 247 (x_at tdX12_isOwn 111 rfl) rfl ?_
                  exact x_ireturn (ty := .boolean) rfl zb1.1 (x_at tdX12_isOwn 113 rfl) ⟨_, rfl, H⟩
                · have H := H.2 c
                  refine x_aload_n (x_at tdX12_isOwn 40 rfl) rfl rfl ?_
                  refine gfM_0_9 (x_at tdX12_isOwn 41 rfl) wf_X12_192 ?_
                  refine x_ldc2 (x_at tdX12_isOwn 42 rfl) wk_X12_231 ?_
                  refine x_lc_eq 242 (x_at tdX12_isOwn 43 rfl) (x_at tdX12_isOwn 44 rfl) rfl (fun c => ?_) (fun c => ?_)
                  · have H := H.1 c
                    refine x_iconst (x_at tdX12_isOwn 110 rfl) k_c_1 ?_
                    refine x_goto 247 (x_at tdX12_isOwn 111 rfl) rfl ?_
                    exact x_ireturn (ty := .boolean) rfl zb1.1 (x_at tdX12_isOwn 113 rfl) ⟨_, rfl, H⟩
                  · have H := H.2 c
                    refine x_aload_n (x_at tdX12_isOwn 45 rfl) rfl rfl ?_
                    refine gfM_0_9 (x_at tdX12_isOwn 46 rfl) wf_X12_192 ?_
                    refine x_ldc2 (x_at tdX12_isOwn 47 rfl) wk_X12_233 ?_
                    refine x_lc_eq 242 (x_at tdX12_isOwn 48 rfl) (x_at tdX12_isOwn 49 rfl) rfl (fun c => ?_) (fun c => ?_)
                    · have H := H.1 c
                      refine x_iconst (x_at tdX12_isOwn 110 rfl) k_c_1 ?_
                      refine x_goto 247 (x_at tdX12_isOwn 111 rfl) rfl ?_
                      exact x_ireturn (ty := .boolean) rfl zb1.1 (x_at tdX12_isOwn 113 rfl) ⟨_, rfl, H⟩
                    · have H := H.2 c
                      refine x_aload_n (x_at tdX12_isOwn 50 rfl) rfl rfl ?_
                      refine gfM_0_9 (x_at tdX12_isOwn 51 rfl) wf_X12_192 ?_
                      refine x_ldc2 (x_at tdX12_isOwn 52 rfl) wk_X12_235 ?_
                      refine x_lc_eq 242 (x_at tdX12_isOwn 53 rfl) (x_at tdX12_isOwn 54 rfl) rfl (fun c => ?_) (fun c => ?_)
                      · have H := H.1 c
                        refine x_iconst (x_at tdX12_isOwn 110 rfl) k_c_1 ?_
                        refine x_goto 247 (x_at tdX12_isOwn 111 rfl) rfl ?_
                        exact x_ireturn (ty := .boolean) rfl zb1.1 (x_at tdX12_isOwn 113 rfl) ⟨_, rfl, H⟩
                      · have H := H.2 c
                        refine x_aload_n (x_at tdX12_isOwn 55 rfl) rfl rfl ?_
                        refine gfM_0_9 (x_at tdX12_isOwn 56 rfl) wf_X12_192 ?_
                        refine x_ldc2 (x_at tdX12_isOwn 57 rfl) wk_X12_237 ?_
                        refine x_lc_eq 242 (x_at tdX12_isOwn 58 rfl) (x_at tdX12_isOwn 59 rfl) rfl (fun c => ?_) (fun c => ?_)
                        · have H := H.1 c
                          refine x_iconst (x_at tdX12_isOwn 110 rfl) k_c_1 ?_
                          refine x_goto 247 (x_at tdX12_isOwn 111 rfl) rfl ?_
                          exact x_ireturn (ty := .boolean) rfl zb1.1 (x_at tdX12_isOwn 113 rfl) ⟨_, rfl, H⟩
                        · have H := H.2 c
                          refine x_aload_n (x_at tdX12_isOwn 60 rfl) rfl rfl ?_
                          refine gfM_0_9 (x_at tdX12_isOwn 61 rfl) wf_X12_192 ?_
                          refine x_ldc2 (x_at tdX12_isOwn 62 rfl) wk_X12_239 ?_
                          refine x_lc_eq 242 (x_at tdX12_isOwn 63 rfl) (x_at tdX12_isOwn 64 rfl) rfl (fun c => ?_) (fun c => ?_)
                          · have H := H.1 c
                            refine x_iconst (x_at tdX12_isOwn 110 rfl) k_c_1 ?_
                            refine x_goto 247 (x_at tdX12_isOwn 111 rfl) rfl ?_
                            exact x_ireturn (ty := .boolean) rfl zb1.1 (x_at tdX12_isOwn 113 rfl) ⟨_, rfl, H⟩
                          · have H := H.2 c
                            refine x_aload_n (x_at tdX12_isOwn 65 rfl) rfl rfl ?_
                            refine gfM_0_9 (x_at tdX12_isOwn 66 rfl) wf_X12_192 ?_
                            refine x_ldc2 (x_at tdX12_isOwn 67 rfl) wk_X12_241 ?_
                            refine x_lc_eq 242 (x_at tdX12_isOwn 68 rfl) (x_at tdX12_isOwn 69 rfl) rfl (fun c => ?_) (fun c => ?_)
                            · have H := H.1 c
                              refine x_iconst (x_at tdX12_isOwn 110 rfl) k_c_1 ?_
                              refine x_goto 247 (x_at tdX12_isOwn 111 rfl) rfl ?_
                              exact x_ireturn (ty := .boolean) rfl zb1.1 (x_at tdX12_isOwn 113 rfl) ⟨_, rfl, H⟩
                            · have H := H.2 c
                              refine x_aload_n (x_at tdX12_isOwn 70 rfl) rfl rfl ?_
                              refine gfM_0_9 (x_at tdX12_isOwn 71 rfl) wf_X12_192 ?_
                              refine x_ldc2 (x_at tdX12_isOwn 72 rfl) wk_X12_243 ?_
                              refine x_lc_eq 242 (x_at tdX12_isOwn 73 rfl) (x_at tdX12_isOwn 74 rfl) rfl (fun c => ?_) (fun c => ?_)
                              · have H := H.1 c
                                refine x_iconst (x_at tdX12_isOwn 110 rfl) k_c_1 ?_
                                refine x_goto 247 (x_at tdX12_isOwn 111 rfl) rfl ?_
                                exact x_ireturn (ty := .boolean) rfl zb1.1 (x_at tdX12_isOwn 113 rfl) ⟨_, rfl, H⟩
                              · have H := H.2 c
                                refine x_aload_n (x_at tdX12_isOwn 75 rfl) rfl rfl ?_
                                refine gfM_0_9 (x_at tdX12_isOwn 76 rfl) wf_X12_192 ?_
                                refine x_ldc2 (x_at tdX12_isOwn 77 rfl) wk_X12_245 ?_
                                refine x_lc_eq 242 (x_at tdX12_isOwn 78 rfl) (x_at tdX12_isOwn 79 rfl) rfl (fun c => ?_) (fun c => ?_)
                                · have H := H.1 c
                                  refine x_iconst (x_at tdX12_isOwn 110 rfl) k_c_1 ?_
                                  refine x_goto 247 (x_at tdX12_isOwn 111 rfl) rfl ?_
                                  exact x_ireturn (ty := .boolean) rfl zb1.1 (x_at tdX12_isOwn 113 rfl) ⟨_, rfl, H⟩
                                · have H := H.2 c
                                  refine x_aload_n (x_at tdX12_isOwn 80 rfl) rfl rfl ?_
                                  refine gfM_0_9 (x_at tdX12_isOwn 81 rfl) wf_X12_192 ?_
                                  refine x_ldc2 (x_at tdX12_isOwn 82 rfl) wk_X12_247 ?_
                                  refine x_lc_eq 242 (x_at tdX12_isOwn 83 rfl) (x_at tdX12_isOwn 84 rfl) rfl (fun c => ?_) (fun c => ?_)
                                  · have H := H.1 c
                                    refine x_iconst (x_at tdX12_isOwn 110 rfl) k_c_1 ?_
                                    refine x_goto 247 (x_at tdX12_isOwn 111 rfl) rfl ?_
                                    exact x_ireturn (ty := .boolean) rfl zb1.1 (x_at tdX12_isOwn 113 rfl) ⟨_, rfl, H⟩
                                  · have H := H.2 c
                                    refine x_aload_n (x_at tdX12_isOwn 85 rfl) rfl rfl ?_
                                    refine gfM_0_9 (x_at tdX12_isOwn 86 rfl) wf_X12_192 ?_
                                    refine x_ldc2 (x_at tdX12_isOwn 87 rfl) wk_X12_249 ?_
                                    refine x_lc_eq 242 (x_at tdX12_isOwn 88 rfl) (x_at tdX12_isOwn 89 rfl) rfl (fun c => ?_) (fun c => ?_)
                                    · have H := H.1 c
                                      refine x_iconst (x_at tdX12_isOwn 110 rfl) k_c_1 ?_
                                      refine x_goto 247 (x_at tdX12_isOwn 111 rfl) rfl ?_
                                      exact x_ireturn (ty := .boolean) rfl zb1.1 (x_at tdX12_isOwn 113 rfl) ⟨_, rfl, H⟩
                                    · have H := H.2 c
                                      refine x_aload_n (x_at tdX12_isOwn 90 rfl) rfl rfl ?_
                                      refine gfM_0_9 (x_at tdX12_isOwn 91 rfl) wf_X12_192 ?_
                                      refine x_ldc2 (x_at tdX12_isOwn 92 rfl) wk_X12_251 ?_
                                      refine x_lc_eq 242 (x_at tdX12_isOwn 93 rfl) (x_at tdX12_isOwn 94 rfl) rfl (fun c => ?_) (fun c => ?_)
                                      · have H := H.1 c
                                        refine x_iconst (x_at tdX12_isOwn 110 rfl) k_c_1 ?_
                                        refine x_goto 247 (x_at tdX12_isOwn 111 rfl) rfl ?_
                                        exact x_ireturn (ty := .boolean) rfl zb1.1 (x_at tdX12_isOwn 113 rfl) ⟨_, rfl, H⟩
                                      · have H := H.2 c
                                        refine x_aload_n (x_at tdX12_isOwn 95 rfl) rfl rfl ?_
                                        refine gfM_0_9 (x_at tdX12_isOwn 96 rfl) wf_X12_192 ?_
                                        refine x_ldc2 (x_at tdX12_isOwn 97 rfl) wk_X12_253 ?_
                                        refine x_lc_eq 242 (x_at tdX12_isOwn 98 rfl) (x_at tdX12_isOwn 99 rfl) rfl (fun c => ?_) (fun c => ?_)
                                        · have H := H.1 c
                                          refine x_iconst (x_at tdX12_isOwn 110 rfl) k_c_1 ?_
                                          refine x_goto 247 (x_at tdX12_isOwn 111 rfl) rfl ?_
                                          exact x_ireturn (ty := .boolean) rfl zb1.1 (x_at tdX12_isOwn 113 rfl) ⟨_, rfl, H⟩
                                        · have H := H.2 c
                                          refine x_aload_n (x_at tdX12_isOwn 100 rfl) rfl rfl ?_
                                          refine gfM_0_9 (x_at tdX12_isOwn 101 rfl) wf_X12_192 ?_
                                          refine x_ldc2 (x_at tdX12_isOwn 102 rfl) wk_X12_255 ?_
                                          refine x_lc_eq 242 (x_at tdX12_isOwn 103 rfl) (x_at tdX12_isOwn 104 rfl) rfl (fun c => ?_) (fun c => ?_)
                                          · have H := H.1 c
                                            refine x_iconst (x_at tdX12_isOwn 110 rfl) k_c_1 ?_
                                            refine x_goto 247 (x_at tdX12_isOwn 111 rfl) rfl ?_
                                            exact x_ireturn (ty := .boolean) rfl zb1.1 (x_at tdX12_isOwn 113 rfl) ⟨_, rfl, H⟩
                                          · have H := H.2 c
                                            refine x_aload_n (x_at tdX12_isOwn 105 rfl) rfl rfl ?_
                                            refine gfM_0_9 (x_at tdX12_isOwn 106 rfl) wf_X12_192 ?_
                                            refine x_ldc2 (x_at tdX12_isOwn 107 rfl) wk_X12_257 ?_
                                            refine x_lc_ne 246 (x_at tdX12_isOwn 108 rfl) (x_at tdX12_isOwn 109 rfl) rfl (fun c => ?_) (fun c => ?_)
                                            · have H := H.1 c
                                              refine x_iconst (x_at tdX12_isOwn 112 rfl) k_c_0 ?_
                                              exact x_ireturn (ty := .boolean) rfl zb0.1 (x_at tdX12_isOwn 113 rfl) ⟨_, rfl, H⟩
                                            · have H := H.2 c
                                              refine x_iconst (x_at tdX12_isOwn 110 rfl) k_c_1 ?_
                                              refine x_goto 247 (x_at tdX12_isOwn 111 rfl) rfl ?_
                                              exact x_ireturn (ty := .boolean) rfl zb1.1 (x_at tdX12_isOwn 113 rfl) ⟨_, rfl, H⟩
theorem e_M_isName {h : xH} {d : Nat}  {S : xSt} {K : Int32 → xSt → Prop}  (H : ((¬ (S.1 0 6) = 1 → K 0 S) ∧ ((S.1 0 6) = 1 → M_M_isOwn h d S (fun (r1 : Int32) (S1 : xSt) => ((¬ r1 = 0 → K 0 S1) ∧ (r1 = 0 → K 1 S1)))))) : M_M_isName h d S K := by
  refine x_enter pn_X12 (Nat.le_of_ble_eq_true rfl) ?_
  show X (gM h) _ _ 0 [(0, .ref (x_ad (gM h) 0))] [] S _
  refine x_aload_n (x_at tdX12_isName 0 rfl) rfl rfl ?_
  refine gfM_0_6 (x_at tdX12_isName 1 rfl) wf_X12_199 ?_
  refine x_iconst (x_at tdX12_isName 2 rfl) k_c_1 ?_
  refine x_ic_ne 19 (x_at tdX12_isName 3 rfl) rfl (fun c => ?_) (fun c => ?_)
  · have H := H.1 c
    refine x_iconst (x_at tdX12_isName 9 rfl) k_c_0 ?_
    exact x_ireturn (ty := .boolean) rfl zb0.1 (x_at tdX12_isName 10 rfl) ⟨_, rfl, H⟩
  · have H := H.2 c
    refine x_aload_n (x_at tdX12_isName 4 rfl) rfl rfl ?_
    refine x_cVi (as := []) (rest := []) mi_X12_isOwn vc_12 (lM_0 h) (x_at tdX12_isName 5 rfl) wm_X12_259 rfl (Nat.le_of_ble_eq_true rfl) rfl H (fun r1 S1 H => ?_)
    refine x_if_ne 19 (x_at tdX12_isName 6 rfl) rfl (fun c => ?_) (fun c => ?_)
    · have H := H.1 c
      refine x_iconst (x_at tdX12_isName 9 rfl) k_c_0 ?_
      exact x_ireturn (ty := .boolean) rfl zb0.1 (x_at tdX12_isName 10 rfl) ⟨_, rfl, H⟩
    · have H := H.2 c
      refine x_iconst (x_at tdX12_isName 7 rfl) k_c_1 ?_
      refine x_goto 20 (x_at tdX12_isName 8 rfl) rfl ?_
      exact x_ireturn (ty := .boolean) rfl zb1.1 (x_at tdX12_isName 10 rfl) ⟨_, rfl, H⟩
theorem e_M_here {h : xH} {d : Nat} {x1 : Int32} {S : xSt} {K : Int32 → xSt → Prop}  (H : (((S.1 0 5) ≤ ((S.1 0 4) + x1) → K (-1) S) ∧ (¬ (S.1 0 5) ≤ ((S.1 0 4) + x1) → (vp_in ((S.1 0 4) + x1) 1600 ∧ K (S.1 1 (((S.1 0 4) + x1) : Int32).toNatClampNeg) S)))) : M_M_here h d x1 S K := by
  refine x_enter pn_X12 (Nat.le_of_ble_eq_true rfl) ?_
  show X (gM h) _ _ 0 [(0, .ref (x_ad (gM h) 0)), (1, .int x1)] [] S _
  refine x_aload_n (x_at tdX12_here 0 rfl) rfl rfl ?_
  refine gfM_0_4 (x_at tdX12_here 1 rfl) wf_X12_179 ?_
  refine x_iload_n (x_at tdX12_here 2 rfl) rfl rfl ?_
  refine x_iadd (x_at tdX12_here 3 rfl) ?_
  refine x_aload_n (x_at tdX12_here 4 rfl) rfl rfl ?_
  refine gfM_0_5 (x_at tdX12_here 5 rfl) wf_X12_182 ?_
  refine x_ic_ge 27 (x_at tdX12_here 6 rfl) rfl (fun c => ?_) (fun c => ?_)
  · have H := H.1 c
    refine x_iconst (x_at tdX12_here 15 rfl) k_c_m1 ?_
    exact x_ireturn (ty := .int) rfl rfl (x_at tdX12_here 16 rfl) ⟨_, rfl, H⟩
  · have H := H.2 c
    refine x_aload_n (x_at tdX12_here 7 rfl) rfl rfl ?_
    refine gfM_0_0 (x_at tdX12_here 8 rfl) wf_X12_7 ?_
    refine x_aload_n (x_at tdX12_here 9 rfl) rfl rfl ?_
    refine gfM_0_4 (x_at tdX12_here 10 rfl) wf_X12_179 ?_
    refine x_iload_n (x_at tdX12_here 11 rfl) rfl rfl ?_
    refine x_iadd (x_at tdX12_here 12 rfl) ?_
    refine x_iald (lM_1 h) (x_at tdX12_here 13 rfl) H.1 ?_
    have H := H.2
    refine x_goto 28 (x_at tdX12_here 14 rfl) rfl ?_
    exact x_ireturn (ty := .int) rfl rfl (x_at tdX12_here 16 rfl) ⟨_, rfl, H⟩
theorem e_M_isDigit {h : xH} {d : Nat} {x0 : Int32} {S : xSt} {K : Int32 → xSt → Prop}  (H : ((x0 < 48 → K 0 S) ∧ (¬ x0 < 48 → ((57 < x0 → K 0 S) ∧ (¬ 57 < x0 → K 1 S))))) : M_M_isDigit h d x0 S K := by
  refine x_enter pn_X12 (Nat.le_of_ble_eq_true rfl) ?_
  show X (gM h) _ _ 0 [(0, .int x0)] [] S _
  refine x_iload_n (x_at tdX12_isDigit 0 rfl) rfl rfl ?_
  refine x_bipush (x_at tdX12_isDigit 1 rfl) k_b_48 ?_
  refine x_ic_lt 16 (x_at tdX12_isDigit 2 rfl) rfl (fun c => ?_) (fun c => ?_)
  · have H := H.1 c
    refine x_iconst (x_at tdX12_isDigit 8 rfl) k_c_0 ?_
    exact x_ireturn (ty := .boolean) rfl zb0.1 (x_at tdX12_isDigit 9 rfl) ⟨_, rfl, H⟩
  · have H := H.2 c
    refine x_iload_n (x_at tdX12_isDigit 3 rfl) rfl rfl ?_
    refine x_bipush (x_at tdX12_isDigit 4 rfl) k_b_57 ?_
    refine x_ic_gt 16 (x_at tdX12_isDigit 5 rfl) rfl (fun c => ?_) (fun c => ?_)
    · have H := H.1 c
      refine x_iconst (x_at tdX12_isDigit 8 rfl) k_c_0 ?_
      exact x_ireturn (ty := .boolean) rfl zb0.1 (x_at tdX12_isDigit 9 rfl) ⟨_, rfl, H⟩
    · have H := H.2 c
      refine x_iconst (x_at tdX12_isDigit 6 rfl) k_c_1 ?_
      refine x_goto 17 (x_at tdX12_isDigit 7 rfl) rfl ?_
      exact x_ireturn (ty := .boolean) rfl zb1.1 (x_at tdX12_isDigit 9 rfl) ⟨_, rfl, H⟩
theorem e_M_isLetter {h : xH} {d : Nat} {x0 : Int32} {S : xSt} {K : Int32 → xSt → Prop}  (H : ((x0 < 97 → K 0 S) ∧ (¬ x0 < 97 → ((122 < x0 → K 0 S) ∧ (¬ 122 < x0 → K 1 S))))) : M_M_isLetter h d x0 S K := by
  refine x_enter pn_X12 (Nat.le_of_ble_eq_true rfl) ?_
  show X (gM h) _ _ 0 [(0, .int x0)] [] S _
  refine x_iload_n (x_at tdX12_isLetter 0 rfl) rfl rfl ?_
  refine x_bipush (x_at tdX12_isLetter 1 rfl) k_b_97 ?_
  refine x_ic_lt 16 (x_at tdX12_isLetter 2 rfl) rfl (fun c => ?_) (fun c => ?_)
  · have H := H.1 c
    refine x_iconst (x_at tdX12_isLetter 8 rfl) k_c_0 ?_
    exact x_ireturn (ty := .boolean) rfl zb0.1 (x_at tdX12_isLetter 9 rfl) ⟨_, rfl, H⟩
  · have H := H.2 c
    refine x_iload_n (x_at tdX12_isLetter 3 rfl) rfl rfl ?_
    refine x_bipush (x_at tdX12_isLetter 4 rfl) k_b_122 ?_
    refine x_ic_gt 16 (x_at tdX12_isLetter 5 rfl) rfl (fun c => ?_) (fun c => ?_)
    · have H := H.1 c
      refine x_iconst (x_at tdX12_isLetter 8 rfl) k_c_0 ?_
      exact x_ireturn (ty := .boolean) rfl zb0.1 (x_at tdX12_isLetter 9 rfl) ⟨_, rfl, H⟩
    · have H := H.2 c
      refine x_iconst (x_at tdX12_isLetter 6 rfl) k_c_1 ?_
      refine x_goto 17 (x_at tdX12_isLetter 7 rfl) rfl ?_
      exact x_ireturn (ty := .boolean) rfl zb1.1 (x_at tdX12_isLetter 9 rfl) ⟨_, rfl, H⟩
theorem e_M_isSign {h : xH} {d : Nat} {x0 : Int32} {S : xSt} {K : Int32 → xSt → Prop}  (H : ((x0 = 59 → K 1 S) ∧ (¬ x0 = 59 → ((x0 = 40 → K 1 S) ∧ (¬ x0 = 40 → ((x0 = 41 → K 1 S) ∧ (¬ x0 = 41 → ((x0 = 60 → K 1 S) ∧ (¬ x0 = 60 → ((x0 = 62 → K 1 S) ∧ (¬ x0 = 62 → ((x0 = 61 → K 1 S) ∧ (¬ x0 = 61 → ((x0 = 43 → K 1 S) ∧ (¬ x0 = 43 → ((x0 = 45 → K 1 S) ∧ (¬ x0 = 45 → ((x0 = 42 → K 1 S) ∧ (¬ x0 = 42 → ((x0 = 47 → K 1 S) ∧ (¬ x0 = 47 → ((¬ x0 = 37 → K 0 S) ∧ (x0 = 37 → K 1 S))))))))))))))))))))))) : M_M_isSign h d x0 S K := by
  refine x_enter pn_X12 (Nat.le_of_ble_eq_true rfl) ?_
  show X (gM h) _ _ 0 [(0, .int x0)] [] S _
  refine x_iload_n (x_at tdX12_isSign 0 rfl) rfl rfl ?_
  refine x_bipush (x_at tdX12_isSign 1 rfl) k_b_59 ?_
  refine x_ic_eq 66 (x_at tdX12_isSign 2 rfl) rfl (fun c => ?_) (fun c => ?_)
  · have H := H.1 c
    refine x_iconst (x_at tdX12_isSign 33 rfl) k_c_1 ?_
    refine x_goto 71 (x_at tdX12_isSign 34 rfl) rfl ?_
    exact x_ireturn (ty := .boolean) rfl zb1.1 (x_at tdX12_isSign 36 rfl) ⟨_, rfl, H⟩
  · have H := H.2 c
    refine x_iload_n (x_at tdX12_isSign 3 rfl) rfl rfl ?_
    refine x_bipush (x_at tdX12_isSign 4 rfl) k_b_40 ?_
    refine x_ic_eq 66 (x_at tdX12_isSign 5 rfl) rfl (fun c => ?_) (fun c => ?_)
    · have H := H.1 c
      refine x_iconst (x_at tdX12_isSign 33 rfl) k_c_1 ?_
      refine x_goto 71 (x_at tdX12_isSign 34 rfl) rfl ?_
      exact x_ireturn (ty := .boolean) rfl zb1.1 (x_at tdX12_isSign 36 rfl) ⟨_, rfl, H⟩
    · have H := H.2 c
      refine x_iload_n (x_at tdX12_isSign 6 rfl) rfl rfl ?_
      refine x_bipush (x_at tdX12_isSign 7 rfl) k_b_41 ?_
      refine x_ic_eq 66 (x_at tdX12_isSign 8 rfl) rfl (fun c => ?_) (fun c => ?_)
      · have H := H.1 c
        refine x_iconst (x_at tdX12_isSign 33 rfl) k_c_1 ?_
        refine x_goto 71 (x_at tdX12_isSign 34 rfl) rfl ?_
        exact x_ireturn (ty := .boolean) rfl zb1.1 (x_at tdX12_isSign 36 rfl) ⟨_, rfl, H⟩
      · have H := H.2 c
        refine x_iload_n (x_at tdX12_isSign 9 rfl) rfl rfl ?_
        refine x_bipush (x_at tdX12_isSign 10 rfl) k_b_60 ?_
        refine x_ic_eq 66 (x_at tdX12_isSign 11 rfl) rfl (fun c => ?_) (fun c => ?_)
        · have H := H.1 c
          refine x_iconst (x_at tdX12_isSign 33 rfl) k_c_1 ?_
          refine x_goto 71 (x_at tdX12_isSign 34 rfl) rfl ?_
          exact x_ireturn (ty := .boolean) rfl zb1.1 (x_at tdX12_isSign 36 rfl) ⟨_, rfl, H⟩
        · have H := H.2 c
          refine x_iload_n (x_at tdX12_isSign 12 rfl) rfl rfl ?_
          refine x_bipush (x_at tdX12_isSign 13 rfl) k_b_62 ?_
          refine x_ic_eq 66 (x_at tdX12_isSign 14 rfl) rfl (fun c => ?_) (fun c => ?_)
          · have H := H.1 c
            refine x_iconst (x_at tdX12_isSign 33 rfl) k_c_1 ?_
            refine x_goto 71 (x_at tdX12_isSign 34 rfl) rfl ?_
            exact x_ireturn (ty := .boolean) rfl zb1.1 (x_at tdX12_isSign 36 rfl) ⟨_, rfl, H⟩
          · have H := H.2 c
            refine x_iload_n (x_at tdX12_isSign 15 rfl) rfl rfl ?_
            refine x_bipush (x_at tdX12_isSign 16 rfl) k_b_61 ?_
            refine x_ic_eq 66 (x_at tdX12_isSign 17 rfl) rfl (fun c => ?_) (fun c => ?_)
            · have H := H.1 c
              refine x_iconst (x_at tdX12_isSign 33 rfl) k_c_1 ?_
              refine x_goto 71 (x_at tdX12_isSign 34 rfl) rfl ?_
              exact x_ireturn (ty := .boolean) rfl zb1.1 (x_at tdX12_isSign 36 rfl) ⟨_, rfl, H⟩
            · have H := H.2 c
              refine x_iload_n (x_at tdX12_isSign 18 rfl) rfl rfl ?_
              refine x_bipush (x_at tdX12_isSign 19 rfl) k_b_43 ?_
              refine x_ic_eq 66 (x_at tdX12_isSign 20 rfl) rfl (fun c => ?_) (fun c => ?_)
              · have H := H.1 c
                refine x_iconst (x_at tdX12_isSign 33 rfl) k_c_1 ?_
                refine x_goto 71 (x_at tdX12_isSign 34 rfl) rfl ?_
                exact x_ireturn (ty := .boolean) rfl zb1.1 (x_at tdX12_isSign 36 rfl) ⟨_, rfl, H⟩
              · have H := H.2 c
                refine x_iload_n (x_at tdX12_isSign 21 rfl) rfl rfl ?_
                refine x_bipush (x_at tdX12_isSign 22 rfl) k_b_45 ?_
                refine x_ic_eq 66 (x_at tdX12_isSign 23 rfl) rfl (fun c => ?_) (fun c => ?_)
                · have H := H.1 c
                  refine x_iconst (x_at tdX12_isSign 33 rfl) k_c_1 ?_
                  refine x_goto 71 (x_at tdX12_isSign 34 rfl) rfl ?_
                  exact x_ireturn (ty := .boolean) rfl zb1.1 (x_at tdX12_isSign 36 rfl) ⟨_, rfl, H⟩
                · have H := H.2 c
                  refine x_iload_n (x_at tdX12_isSign 24 rfl) rfl rfl ?_
                  refine x_bipush (x_at tdX12_isSign 25 rfl) k_b_42 ?_
                  refine x_ic_eq 66 (x_at tdX12_isSign 26 rfl) rfl (fun c => ?_) (fun c => ?_)
                  · have H := H.1 c
                    refine x_iconst (x_at tdX12_isSign 33 rfl) k_c_1 ?_
                    refine x_goto 71 (x_at tdX12_isSign 34 rfl) rfl ?_
                    exact x_ireturn (ty := .boolean) rfl zb1.1 (x_at tdX12_isSign 36 rfl) ⟨_, rfl, H⟩
                  · have H := H.2 c
                    refine x_iload_n (x_at tdX12_isSign 27 rfl) rfl rfl ?_
                    refine x_bipush (x_at tdX12_isSign 28 rfl) k_b_47 ?_
                    refine x_ic_eq 66 (x_at tdX12_isSign 29 rfl) rfl (fun c => ?_) (fun c => ?_)
                    · have H := H.1 c
                      refine x_iconst (x_at tdX12_isSign 33 rfl) k_c_1 ?_
                      refine x_goto 71 (x_at tdX12_isSign 34 rfl) rfl ?_
                      exact x_ireturn (ty := .boolean) rfl zb1.1 (x_at tdX12_isSign 36 rfl) ⟨_, rfl, H⟩
                    · have H := H.2 c
                      refine x_iload_n (x_at tdX12_isSign 30 rfl) rfl rfl ?_
                      refine x_bipush (x_at tdX12_isSign 31 rfl) k_b_37 ?_
                      refine x_ic_ne 70 (x_at tdX12_isSign 32 rfl) rfl (fun c => ?_) (fun c => ?_)
                      · have H := H.1 c
                        refine x_iconst (x_at tdX12_isSign 35 rfl) k_c_0 ?_
                        exact x_ireturn (ty := .boolean) rfl zb0.1 (x_at tdX12_isSign 36 rfl) ⟨_, rfl, H⟩
                      · have H := H.2 c
                        refine x_iconst (x_at tdX12_isSign 33 rfl) k_c_1 ?_
                        refine x_goto 71 (x_at tdX12_isSign 34 rfl) rfl ?_
                        exact x_ireturn (ty := .boolean) rfl zb1.1 (x_at tdX12_isSign 36 rfl) ⟨_, rfl, H⟩
theorem e_M_token {h : xH} {d : Nat}  {S : xSt} {K : xSt → Prop}  (H : B_M_token_0 h d S K) : M_M_token h d S K := by
  refine x_enter pn_X12 (Nat.le_of_ble_eq_true rfl) ?_
  show X (gM h) _ _ 0 [(0, .ref (x_ad (gM h) 0))] [] S _
  refine x_weak (lv' := [(0, .ref (x_ad (gM h) 0))]) ⟨rfl, trivial⟩ ?_
  exact H
theorem b_M_token_0 {h : xH} {d : Nat}   {S : xSt} {K : xSt → Prop}  (H : M_M_here h d 0 S (fun (r1 : Int32) (S1 : xSt) => ((r1 = 32 → B_M_token_20 h d S1 K) ∧ (¬ r1 = 32 → M_M_here h d 0 S1 (fun (r2 : Int32) (S2 : xSt) => ((¬ r2 = 10 → M_M_here h d 0 (x_putI S2 0 7 (S2.1 0 4)) (fun (r3 : Int32) (S3 : xSt) => ((0 ≤ r3 → M_M_isLetter h d r3 (x_putI (x_putL S3 0 9 0) 0 8 0) (fun (r4 : Int32) (S4 : xSt) => ((r4 = 0 → M_M_isDigit h d r3 S4 (fun (r5 : Int32) (S5 : xSt) => ((r5 = 0 → M_M_isSign h d r3 S5 (fun (r6 : Int32) (S6 : xSt) => ((r6 = 0 → B_M_token_229 h d 1 3 S6 K) ∧ (¬ r6 = 0 → B_M_token_229 h d 1 r3 S6 K)))) ∧ (¬ r5 = 0 → B_M_token_144 h d 0 S5 K)))) ∧ (¬ r4 = 0 → B_M_token_78 h d 0 S4 K)))) ∧ (¬ 0 ≤ r3 → B_M_token_232 h d 0 (x_putI (x_putI (x_putL S3 0 9 0) 0 8 0) 0 6 0) K)))) ∧ (r2 = 10 → B_M_token_20 h d S2 K))))))) : B_M_token_0 h d S K := by
  unfold B_M_token_0
  refine x_aload_n (x_at tdX12_token 0 rfl) rfl rfl ?_
  refine x_iconst (x_at tdX12_token 1 rfl) k_c_0 ?_
  refine x_cVi (as := [.int 0]) (rest := []) mi_X12_here vc_12 (lM_0 h) (x_at tdX12_token 2 rfl) wm_X12_185 rfl (Nat.le_of_ble_eq_true rfl) rfl H (fun r1 S1 H => ?_)
  refine x_bipush (x_at tdX12_token 3 rfl) k_b_32 ?_
  refine x_ic_eq 20 (x_at tdX12_token 4 rfl) rfl (fun c => ?_) (fun c => ?_)
  · have H := H.1 c
    refine x_weak (lv' := [(0, .ref (x_ad (gM h) 0))]) ⟨rfl, trivial⟩ ?_
    exact H
  · have H := H.2 c
    refine x_aload_n (x_at tdX12_token 5 rfl) rfl rfl ?_
    refine x_iconst (x_at tdX12_token 6 rfl) k_c_0 ?_
    refine x_cVi (as := [.int 0]) (rest := []) mi_X12_here vc_12 (lM_0 h) (x_at tdX12_token 7 rfl) wm_X12_185 rfl (Nat.le_of_ble_eq_true rfl) rfl H (fun r2 S2 H => ?_)
    refine x_bipush (x_at tdX12_token 8 rfl) k_b_10 ?_
    refine x_ic_ne 33 (x_at tdX12_token 9 rfl) rfl (fun c => ?_) (fun c => ?_)
    · have H := H.1 c
      refine x_aload_n (x_at tdX12_token 17 rfl) rfl rfl ?_
      refine x_aload_n (x_at tdX12_token 18 rfl) rfl rfl ?_
      refine gfM_0_4 (x_at tdX12_token 19 rfl) wf_X12_179 ?_
      refine pfM_0_7 (x_at tdX12_token 20 rfl) wf_X12_189 ?_
      refine x_aload_n (x_at tdX12_token 21 rfl) rfl rfl ?_
      refine x_iconst (x_at tdX12_token 22 rfl) k_c_0 ?_
      refine x_cVi (as := [.int 0]) (rest := []) mi_X12_here vc_12 (lM_0 h) (x_at tdX12_token 23 rfl) wm_X12_185 rfl (Nat.le_of_ble_eq_true rfl) rfl H (fun r3 S3 H => ?_)
      refine x_istore_n (x_at tdX12_token 24 rfl) rfl (by decide) ?_
      refine x_iconst (x_at tdX12_token 25 rfl) k_c_0 ?_
      refine x_istore_n (x_at tdX12_token 26 rfl) rfl (by decide) ?_
      refine x_aload_n (x_at tdX12_token 27 rfl) rfl rfl ?_
      refine x_lconst (v := 0) (x_at tdX12_token 28 rfl) rfl ?_
      refine pfM_0_9 (x_at tdX12_token 29 rfl) wf_X12_192 ?_
      refine x_aload_n (x_at tdX12_token 30 rfl) rfl rfl ?_
      refine x_iconst (x_at tdX12_token 31 rfl) k_c_0 ?_
      refine pfM_0_8 (x_at tdX12_token 32 rfl) wf_X12_196 ?_
      refine x_iload_n (x_at tdX12_token 33 rfl) rfl rfl ?_
      refine x_if_ge 71 (x_at tdX12_token 34 rfl) rfl (fun c => ?_) (fun c => ?_)
      · have H := H.1 c
        refine x_iload_n (x_at tdX12_token 39 rfl) rfl rfl ?_
        refine x_cSi (as := [.int r3]) (rest := []) mi_X12_isLetter (x_at tdX12_token 40 rfl) wm_X12_202 rfl (Nat.le_of_ble_eq_true rfl) rfl H (fun r4 S4 H => ?_)
        refine x_if_eq 137 (x_at tdX12_token 41 rfl) rfl (fun c => ?_) (fun c => ?_)
        · have H := H.1 c
          refine x_iload_n (x_at tdX12_token 72 rfl) rfl rfl ?_
          refine x_cSi (as := [.int r3]) (rest := []) mi_X12_isDigit (x_at tdX12_token 73 rfl) wm_X12_206 rfl (Nat.le_of_ble_eq_true rfl) rfl H (fun r5 S5 H => ?_)
          refine x_if_eq 214 (x_at tdX12_token 74 rfl) rfl (fun c => ?_) (fun c => ?_)
          · have H := H.1 c
            refine x_iconst (x_at tdX12_token 111 rfl) k_c_1 ?_
            refine x_istore_n (x_at tdX12_token 112 rfl) rfl (by decide) ?_
            refine x_aload_n (x_at tdX12_token 113 rfl) rfl rfl ?_
            refine x_iload_n (x_at tdX12_token 114 rfl) rfl rfl ?_
            refine x_cSi (as := [.int r3]) (rest := [.ref (x_ad (gM h) 0)]) mi_X12_isSign (x_at tdX12_token 115 rfl) wm_X12_209 rfl (Nat.le_of_ble_eq_true rfl) rfl H (fun r6 S6 H => ?_)
            refine x_if_eq 228 (x_at tdX12_token 116 rfl) rfl (fun c => ?_) (fun c => ?_)
            · have H := H.1 c
              refine x_iconst (x_at tdX12_token 119 rfl) k_c_3 ?_
              refine x_weak (lv' := [(0, .ref (x_ad (gM h) 0)), (2, .int 1)]) ⟨rfl, rfl, trivial⟩ ?_
              exact H
            · have H := H.2 c
              refine x_iload_n (x_at tdX12_token 117 rfl) rfl rfl ?_
              refine x_goto 229 (x_at tdX12_token 118 rfl) rfl ?_
              refine x_weak (lv' := [(0, .ref (x_ad (gM h) 0)), (2, .int 1)]) ⟨rfl, rfl, trivial⟩ ?_
              exact H
          · have H := H.2 c
            refine x_weak (lv' := [(0, .ref (x_ad (gM h) 0)), (2, .int 0)]) ⟨rfl, rfl, trivial⟩ ?_
            exact H
        · have H := H.2 c
          refine x_weak (lv' := [(0, .ref (x_ad (gM h) 0)), (2, .int 0)]) ⟨rfl, rfl, trivial⟩ ?_
          exact H
      · have H := H.2 c
        refine x_aload_n (x_at tdX12_token 35 rfl) rfl rfl ?_
        refine x_iconst (x_at tdX12_token 36 rfl) k_c_0 ?_
        refine pfM_0_6 (x_at tdX12_token 37 rfl) wf_X12_199 ?_
        refine x_goto 232 (x_at tdX12_token 38 rfl) rfl ?_
        refine x_weak (lv' := [(0, .ref (x_ad (gM h) 0)), (2, .int 0)]) ⟨rfl, rfl, trivial⟩ ?_
        exact H
    · have H := H.2 c
      refine x_weak (lv' := [(0, .ref (x_ad (gM h) 0))]) ⟨rfl, trivial⟩ ?_
      exact H
theorem b_M_token_20 {h : xH} {d : Nat}   {S : xSt} {K : xSt → Prop}  (H : B_M_token_0 h d (x_putI S 0 4 ((S.1 0 4) + (1 : Int32))) K) : B_M_token_20 h d S K := by
  unfold B_M_token_20
  refine x_aload_n (x_at tdX12_token 10 rfl) rfl rfl ?_
  refine x_dup (x_at tdX12_token 11 rfl) rfl ?_
  refine gfM_0_4 (x_at tdX12_token 12 rfl) wf_X12_179 ?_
  refine x_iconst (x_at tdX12_token 13 rfl) k_c_1 ?_
  refine x_iadd (x_at tdX12_token 14 rfl) ?_
  refine pfM_0_4 (x_at tdX12_token 15 rfl) wf_X12_179 ?_
  refine x_goto 0 (x_at tdX12_token 16 rfl) rfl ?_
  refine x_weak (lv' := [(0, .ref (x_ad (gM h) 0))]) ⟨rfl, trivial⟩ ?_
  exact H
theorem b_M_token_78 {h : xH} {d : Nat}  {x2 : Int32} {S : xSt} {K : xSt → Prop}  (H : M_M_here h d x2 S (fun (r1 : Int32) (S1 : xSt) => M_M_isLetter h d r1 S1 (fun (r2 : Int32) (S2 : xSt) => ((r2 = 0 → ((x2 ≤ 8 → B_M_token_131 h d x2 1 S2 K) ∧ (¬ x2 ≤ 8 → B_M_token_131 h d x2 3 S2 K))) ∧ (¬ r2 = 0 → ((8 ≤ x2 → B_M_token_113 h d x2 S2 K) ∧ (¬ 8 ≤ x2 → M_M_here h d x2 S2 (fun (r3 : Int32) (S3 : xSt) => B_M_token_113 h d x2 (x_putL S3 0 9 (((S2.2.1 0 9) <<< ((8 : Int32).toInt64 &&& 63)) ||| (r3 : Int32).toInt64)) K)))))))) : B_M_token_78 h d x2 S K := by
  unfold B_M_token_78
  refine x_aload_n (x_at tdX12_token 42 rfl) rfl rfl ?_
  refine x_iload_n (x_at tdX12_token 43 rfl) rfl rfl ?_
  refine x_cVi (as := [.int x2]) (rest := []) mi_X12_here vc_12 (lM_0 h) (x_at tdX12_token 44 rfl) wm_X12_185 rfl (Nat.le_of_ble_eq_true rfl) rfl H (fun r1 S1 H => ?_)
  refine x_cSi (as := [.int r1]) (rest := []) mi_X12_isLetter (x_at tdX12_token 45 rfl) wm_X12_202 rfl (Nat.le_of_ble_eq_true rfl) rfl H (fun r2 S2 H => ?_)
  refine x_if_eq 119 (x_at tdX12_token 46 rfl) rfl (fun c => ?_) (fun c => ?_)
  · have H := H.1 c
    refine x_aload_n (x_at tdX12_token 63 rfl) rfl rfl ?_
    refine x_iload_n (x_at tdX12_token 64 rfl) rfl rfl ?_
    refine x_bipush (x_at tdX12_token 65 rfl) k_b_8 ?_
    refine x_ic_le 130 (x_at tdX12_token 66 rfl) rfl (fun c => ?_) (fun c => ?_)
    · have H := H.1 c
      refine x_iconst (x_at tdX12_token 69 rfl) k_c_1 ?_
      refine x_weak (lv' := [(0, .ref (x_ad (gM h) 0)), (2, .int x2)]) ⟨rfl, rfl, trivial⟩ ?_
      exact H
    · have H := H.2 c
      refine x_iconst (x_at tdX12_token 67 rfl) k_c_3 ?_
      refine x_goto 131 (x_at tdX12_token 68 rfl) rfl ?_
      refine x_weak (lv' := [(0, .ref (x_ad (gM h) 0)), (2, .int x2)]) ⟨rfl, rfl, trivial⟩ ?_
      exact H
  · have H := H.2 c
    refine x_iload_n (x_at tdX12_token 47 rfl) rfl rfl ?_
    refine x_bipush (x_at tdX12_token 48 rfl) k_b_8 ?_
    refine x_ic_ge 113 (x_at tdX12_token 49 rfl) rfl (fun c => ?_) (fun c => ?_)
    · have H := H.1 c
      refine x_weak (lv' := [(0, .ref (x_ad (gM h) 0)), (2, .int x2)]) ⟨rfl, rfl, trivial⟩ ?_
      exact H
    · have H := H.2 c
      refine x_aload_n (x_at tdX12_token 50 rfl) rfl rfl ?_
      refine x_aload_n (x_at tdX12_token 51 rfl) rfl rfl ?_
      refine gfM_0_9 (x_at tdX12_token 52 rfl) wf_X12_192 ?_
      refine x_bipush (x_at tdX12_token 53 rfl) k_b_8 ?_
      refine x_lshl (x_at tdX12_token 54 rfl) ?_
      refine x_aload_n (x_at tdX12_token 55 rfl) rfl rfl ?_
      refine x_iload_n (x_at tdX12_token 56 rfl) rfl rfl ?_
      refine x_cVi (as := [.int x2]) (rest := [.long ((S2.2.1 0 9) <<< ((8 : Int32).toInt64 &&& 63)), .ref (x_ad (gM h) 0)]) mi_X12_here vc_12 (lM_0 h) (x_at tdX12_token 57 rfl) wm_X12_185 rfl (Nat.le_of_ble_eq_true rfl) rfl H (fun r3 S3 H => ?_)
      refine x_i2l (x_at tdX12_token 58 rfl) ?_
      refine x_lor (x_at tdX12_token 59 rfl) ?_
      refine pfM_0_9 (x_at tdX12_token 60 rfl) wf_X12_192 ?_
      refine x_weak (lv' := [(0, .ref (x_ad (gM h) 0)), (2, .int x2)]) ⟨rfl, rfl, trivial⟩ ?_
      exact H
theorem b_M_token_113 {h : xH} {d : Nat}  {x2 : Int32} {S : xSt} {K : xSt → Prop}  (H : B_M_token_78 h d (x2 + 1) S K) : B_M_token_113 h d x2 S K := by
  unfold B_M_token_113
  refine x_iinc (x_at tdX12_token 61 rfl) rfl (k_inc_1 _) (by decide) ?_
  refine x_goto 78 (x_at tdX12_token 62 rfl) rfl ?_
  refine x_weak (lv' := [(0, .ref (x_ad (gM h) 0)), (2, .int (x2 + 1))]) ⟨rfl, rfl, trivial⟩ ?_
  exact H
theorem b_M_token_131 {h : xH} {d : Nat}  {x2 : Int32} {s0 : Int32} {S : xSt} {K : xSt → Prop}  (H : B_M_token_232 h d x2 (x_putI S 0 6 s0) K) : B_M_token_131 h d x2 s0 S K := by
  unfold B_M_token_131
  refine pfM_0_6 (x_at tdX12_token 70 rfl) wf_X12_199 ?_
  refine x_goto 232 (x_at tdX12_token 71 rfl) rfl ?_
  refine x_weak (lv' := [(0, .ref (x_ad (gM h) 0)), (2, .int x2)]) ⟨rfl, rfl, trivial⟩ ?_
  exact H
theorem b_M_token_144 {h : xH} {d : Nat}  {x2 : Int32} {S : xSt} {K : xSt → Prop}  (H : M_M_here h d x2 S (fun (r1 : Int32) (S1 : xSt) => M_M_isDigit h d r1 S1 (fun (r2 : Int32) (S2 : xSt) => ((r2 = 0 → ((4 < x2 → B_M_token_203 h d x2 S2 K) ∧ (¬ 4 < x2 → M_M_here h d x2 S2 (fun (r3 : Int32) (S3 : xSt) => M_M_isLetter h d r3 S3 (fun (r4 : Int32) (S4 : xSt) => ((r4 = 0 → B_M_token_208 h d x2 2 S4 K) ∧ (¬ r4 = 0 → B_M_token_203 h d x2 S4 K))))))) ∧ (¬ r2 = 0 → ((4 ≤ x2 → B_M_token_180 h d x2 S2 K) ∧ (¬ 4 ≤ x2 → M_M_here h d x2 S2 (fun (r5 : Int32) (S5 : xSt) => B_M_token_180 h d x2 (x_putI S5 0 8 ((((10 : Int32) * (S2.1 0 8)) + r5) - (48 : Int32))) K)))))))) : B_M_token_144 h d x2 S K := by
  unfold B_M_token_144
  refine x_aload_n (x_at tdX12_token 75 rfl) rfl rfl ?_
  refine x_iload_n (x_at tdX12_token 76 rfl) rfl rfl ?_
  refine x_cVi (as := [.int x2]) (rest := []) mi_X12_here vc_12 (lM_0 h) (x_at tdX12_token 77 rfl) wm_X12_185 rfl (Nat.le_of_ble_eq_true rfl) rfl H (fun r1 S1 H => ?_)
  refine x_cSi (as := [.int r1]) (rest := []) mi_X12_isDigit (x_at tdX12_token 78 rfl) wm_X12_206 rfl (Nat.le_of_ble_eq_true rfl) rfl H (fun r2 S2 H => ?_)
  refine x_if_eq 186 (x_at tdX12_token 79 rfl) rfl (fun c => ?_) (fun c => ?_)
  · have H := H.1 c
    refine x_aload_n (x_at tdX12_token 97 rfl) rfl rfl ?_
    refine x_iload_n (x_at tdX12_token 98 rfl) rfl rfl ?_
    refine x_iconst (x_at tdX12_token 99 rfl) k_c_4 ?_
    refine x_ic_gt 203 (x_at tdX12_token 100 rfl) rfl (fun c => ?_) (fun c => ?_)
    · have H := H.1 c
      refine x_weak (lv' := [(0, .ref (x_ad (gM h) 0)), (2, .int x2)]) ⟨rfl, rfl, trivial⟩ ?_
      exact H
    · have H := H.2 c
      refine x_aload_n (x_at tdX12_token 101 rfl) rfl rfl ?_
      refine x_iload_n (x_at tdX12_token 102 rfl) rfl rfl ?_
      refine x_cVi (as := [.int x2]) (rest := [.ref (x_ad (gM h) 0)]) mi_X12_here vc_12 (lM_0 h) (x_at tdX12_token 103 rfl) wm_X12_185 rfl (Nat.le_of_ble_eq_true rfl) rfl H (fun r3 S3 H => ?_)
      refine x_cSi (as := [.int r3]) (rest := [.ref (x_ad (gM h) 0)]) mi_X12_isLetter (x_at tdX12_token 104 rfl) wm_X12_202 rfl (Nat.le_of_ble_eq_true rfl) rfl H (fun r4 S4 H => ?_)
      refine x_if_eq 207 (x_at tdX12_token 105 rfl) rfl (fun c => ?_) (fun c => ?_)
      · have H := H.1 c
        refine x_iconst (x_at tdX12_token 108 rfl) k_c_2 ?_
        refine x_weak (lv' := [(0, .ref (x_ad (gM h) 0)), (2, .int x2)]) ⟨rfl, rfl, trivial⟩ ?_
        exact H
      · have H := H.2 c
        refine x_weak (lv' := [(0, .ref (x_ad (gM h) 0)), (2, .int x2)]) ⟨rfl, rfl, trivial⟩ ?_
        exact H
  · have H := H.2 c
    refine x_iload_n (x_at tdX12_token 80 rfl) rfl rfl ?_
    refine x_iconst (x_at tdX12_token 81 rfl) k_c_4 ?_
    refine x_ic_ge 180 (x_at tdX12_token 82 rfl) rfl (fun c => ?_) (fun c => ?_)
    · have H := H.1 c
      refine x_weak (lv' := [(0, .ref (x_ad (gM h) 0)), (2, .int x2)]) ⟨rfl, rfl, trivial⟩ ?_
      exact H
    · have H := H.2 c
      refine x_aload_n (x_at tdX12_token 83 rfl) rfl rfl ?_
      refine x_bipush (x_at tdX12_token 84 rfl) k_b_10 ?_
      refine x_aload_n (x_at tdX12_token 85 rfl) rfl rfl ?_
      refine gfM_0_8 (x_at tdX12_token 86 rfl) wf_X12_196 ?_
      refine x_imul (x_at tdX12_token 87 rfl) ?_
      refine x_aload_n (x_at tdX12_token 88 rfl) rfl rfl ?_
      refine x_iload_n (x_at tdX12_token 89 rfl) rfl rfl ?_
      refine x_cVi (as := [.int x2]) (rest := [.int ((10 : Int32) * (S2.1 0 8)), .ref (x_ad (gM h) 0)]) mi_X12_here vc_12 (lM_0 h) (x_at tdX12_token 90 rfl) wm_X12_185 rfl (Nat.le_of_ble_eq_true rfl) rfl H (fun r5 S5 H => ?_)
      refine x_iadd (x_at tdX12_token 91 rfl) ?_
      refine x_bipush (x_at tdX12_token 92 rfl) k_b_48 ?_
      refine x_isub (x_at tdX12_token 93 rfl) ?_
      refine pfM_0_8 (x_at tdX12_token 94 rfl) wf_X12_196 ?_
      refine x_weak (lv' := [(0, .ref (x_ad (gM h) 0)), (2, .int x2)]) ⟨rfl, rfl, trivial⟩ ?_
      exact H
theorem b_M_token_180 {h : xH} {d : Nat}  {x2 : Int32} {S : xSt} {K : xSt → Prop}  (H : B_M_token_144 h d (x2 + 1) S K) : B_M_token_180 h d x2 S K := by
  unfold B_M_token_180
  refine x_iinc (x_at tdX12_token 95 rfl) rfl (k_inc_1 _) (by decide) ?_
  refine x_goto 144 (x_at tdX12_token 96 rfl) rfl ?_
  refine x_weak (lv' := [(0, .ref (x_ad (gM h) 0)), (2, .int (x2 + 1))]) ⟨rfl, rfl, trivial⟩ ?_
  exact H
theorem b_M_token_203 {h : xH} {d : Nat}  {x2 : Int32} {S : xSt} {K : xSt → Prop}  (H : B_M_token_208 h d x2 3 S K) : B_M_token_203 h d x2 S K := by
  unfold B_M_token_203
  refine x_iconst (x_at tdX12_token 106 rfl) k_c_3 ?_
  refine x_goto 208 (x_at tdX12_token 107 rfl) rfl ?_
  refine x_weak (lv' := [(0, .ref (x_ad (gM h) 0)), (2, .int x2)]) ⟨rfl, rfl, trivial⟩ ?_
  exact H
theorem b_M_token_208 {h : xH} {d : Nat}  {x2 : Int32} {s0 : Int32} {S : xSt} {K : xSt → Prop}  (H : B_M_token_232 h d x2 (x_putI S 0 6 s0) K) : B_M_token_208 h d x2 s0 S K := by
  unfold B_M_token_208
  refine pfM_0_6 (x_at tdX12_token 109 rfl) wf_X12_199 ?_
  refine x_goto 232 (x_at tdX12_token 110 rfl) rfl ?_
  refine x_weak (lv' := [(0, .ref (x_ad (gM h) 0)), (2, .int x2)]) ⟨rfl, rfl, trivial⟩ ?_
  exact H
theorem b_M_token_229 {h : xH} {d : Nat}  {x2 : Int32} {s0 : Int32} {S : xSt} {K : xSt → Prop}  (H : B_M_token_232 h d x2 (x_putI S 0 6 s0) K) : B_M_token_229 h d x2 s0 S K := by
  unfold B_M_token_229
  refine pfM_0_6 (x_at tdX12_token 120 rfl) wf_X12_199 ?_
  refine x_weak (lv' := [(0, .ref (x_ad (gM h) 0)), (2, .int x2)]) ⟨rfl, rfl, trivial⟩ ?_
  exact H
theorem b_M_token_232 {h : xH} {d : Nat}  {x2 : Int32} {S : xSt} {K : xSt → Prop}  (H : (((S.1 0 6) = 3 → K S) ∧ (¬ (S.1 0 6) = 3 → K (x_putI S 0 4 ((S.1 0 4) + x2))))) : B_M_token_232 h d x2 S K := by
  unfold B_M_token_232
  refine x_aload_n (x_at tdX12_token 121 rfl) rfl rfl ?_
  refine gfM_0_6 (x_at tdX12_token 122 rfl) wf_X12_199 ?_
  refine x_iconst (x_at tdX12_token 123 rfl) k_c_3 ?_
  refine x_ic_eq 250 (x_at tdX12_token 124 rfl) rfl (fun c => ?_) (fun c => ?_)
  · have H := H.1 c
    exact x_return rfl (x_at tdX12_token 131 rfl) ⟨rfl, H⟩
  · have H := H.2 c
    refine x_aload_n (x_at tdX12_token 125 rfl) rfl rfl ?_
    refine x_dup (x_at tdX12_token 126 rfl) rfl ?_
    refine gfM_0_4 (x_at tdX12_token 127 rfl) wf_X12_179 ?_
    refine x_iload_n (x_at tdX12_token 128 rfl) rfl rfl ?_
    refine x_iadd (x_at tdX12_token 129 rfl) ?_
    refine pfM_0_4 (x_at tdX12_token 130 rfl) wf_X12_179 ?_
    exact x_return rfl (x_at tdX12_token 131 rfl) ⟨rfl, H⟩
theorem e_M_wrong {h : xH} {d : Nat} {x1 : Int32} {S : xSt} {K : xSt → Prop}  (H : (((S.1 0 2) ≤ 0 → ((¬ (S.1 0 6) = 3 → B_M_wrong_22 h d x1 S K) ∧ ((S.1 0 6) = 3 → B_M_wrong_22 h d 1 S K))) ∧ (¬ (S.1 0 2) ≤ 0 → K S))) : M_M_wrong h d x1 S K := by
  refine x_enter pn_X12 (Nat.le_of_ble_eq_true rfl) ?_
  show X (gM h) _ _ 0 [(0, .ref (x_ad (gM h) 0)), (1, .int x1)] [] S _
  refine x_aload_n (x_at tdX12_wrong 0 rfl) rfl rfl ?_
  refine gfM_0_2 (x_at tdX12_wrong 1 rfl) wf_X12_212 ?_
  refine x_if_le 8 (x_at tdX12_wrong 2 rfl) rfl (fun c => ?_) (fun c => ?_)
  · have H := H.1 c
    refine x_aload_n (x_at tdX12_wrong 4 rfl) rfl rfl ?_
    refine x_aload_n (x_at tdX12_wrong 5 rfl) rfl rfl ?_
    refine gfM_0_6 (x_at tdX12_wrong 6 rfl) wf_X12_199 ?_
    refine x_iconst (x_at tdX12_wrong 7 rfl) k_c_3 ?_
    refine x_ic_ne 21 (x_at tdX12_wrong 8 rfl) rfl (fun c => ?_) (fun c => ?_)
    · have H := H.1 c
      refine x_iload_n (x_at tdX12_wrong 11 rfl) rfl rfl ?_
      refine x_weak (lv' := [(0, .ref (x_ad (gM h) 0))]) ⟨rfl, trivial⟩ ?_
      exact H
    · have H := H.2 c
      refine x_iconst (x_at tdX12_wrong 9 rfl) k_c_1 ?_
      refine x_goto 22 (x_at tdX12_wrong 10 rfl) rfl ?_
      refine x_weak (lv' := [(0, .ref (x_ad (gM h) 0))]) ⟨rfl, trivial⟩ ?_
      exact H
  · have H := H.2 c
    exact x_return rfl (x_at tdX12_wrong 3 rfl) ⟨rfl, H⟩
theorem b_M_wrong_22 {h : xH} {d : Nat}  {s0 : Int32} {S : xSt} {K : xSt → Prop}  (H : K (x_putI (x_putI S 0 2 s0) 0 3 (S.1 0 7))) : B_M_wrong_22 h d s0 S K := by
  unfold B_M_wrong_22
  refine pfM_0_2 (x_at tdX12_wrong 12 rfl) wf_X12_212 ?_
  refine x_aload_n (x_at tdX12_wrong 13 rfl) rfl rfl ?_
  refine x_aload_n (x_at tdX12_wrong 14 rfl) rfl rfl ?_
  refine gfM_0_7 (x_at tdX12_wrong 15 rfl) wf_X12_189 ?_
  refine x_top (v := (S.1 0 7)) rfl ?_
  refine pfM_0_3 (x_at tdX12_wrong 16 rfl) wf_X12_13 ?_
  exact x_return rfl (x_at tdX12_wrong 17 rfl) ⟨rfl, H⟩
theorem e_M_newName {h : xH} {d : Nat} {x1 : Int32} {x2 : Int32} {S : xSt} {K : xSt → Prop}  (H : M_M_token h d S (fun (S1 : xSt) => M_M_isName h d S1 (fun (r2 : Int32) (S2 : xSt) => ((¬ r2 = 0 → M_M_find h (d + 1) x1 x2 S2 (fun (r3 : Int32) (S3 : xSt) => ((r3 < 0 → B_M_newName_33 h d x1 x2 S3 K) ∧ (¬ r3 < 0 → M_M_wrong h (d + 1) 3 S3 (fun (S4 : xSt) => B_M_newName_33 h d x1 x2 S4 K))))) ∧ (r2 = 0 → M_M_wrong h (d + 1) 2 S2 (fun (S5 : xSt) => B_M_newName_33 h d x1 x2 S5 K)))))) : M_M_newName h d x1 x2 S K := by
  refine x_enter pn_X12 (Nat.le_of_ble_eq_true rfl) ?_
  show X (gM h) _ _ 0 [(0, .ref (x_ad (gM h) 0)), (1, .int x1), (2, .int x2)] [] S _
  refine x_aload_n (x_at tdX12_newName 0 rfl) rfl rfl ?_
  refine x_cVv (as := []) (rest := []) mi_X12_token vc_12 (lM_0 h) (x_at tdX12_newName 1 rfl) wm_X12_270 rfl (Nat.le_of_ble_eq_true rfl) rfl H (fun S1 H => ?_)
  refine x_aload_n (x_at tdX12_newName 2 rfl) rfl rfl ?_
  refine x_cVi (as := []) (rest := []) mi_X12_isName vc_12 (lM_0 h) (x_at tdX12_newName 3 rfl) wm_X12_285 rfl (Nat.le_of_ble_eq_true rfl) rfl H (fun r2 S2 H => ?_)
  refine x_if_ne 19 (x_at tdX12_newName 4 rfl) rfl (fun c => ?_) (fun c => ?_)
  · have H := H.1 c
    refine x_aload_n (x_at tdX12_newName 9 rfl) rfl rfl ?_
    refine x_iload_n (x_at tdX12_newName 10 rfl) rfl rfl ?_
    refine x_iload_n (x_at tdX12_newName 11 rfl) rfl rfl ?_
    refine x_cVi (as := [.int x1, .int x2]) (rest := []) mi_X12_find vc_12 (lM_0 h) (x_at tdX12_newName 12 rfl) wm_X12_288 rfl (Nat.le_of_ble_eq_true rfl) rfl H (fun r3 S3 H => ?_)
    refine x_if_lt 33 (x_at tdX12_newName 13 rfl) rfl (fun c => ?_) (fun c => ?_)
    · have H := H.1 c
      refine x_weak (lv' := [(0, .ref (x_ad (gM h) 0)), (1, .int x1), (2, .int x2)]) ⟨rfl, rfl, rfl, trivial⟩ ?_
      exact H
    · have H := H.2 c
      refine x_aload_n (x_at tdX12_newName 14 rfl) rfl rfl ?_
      refine x_iconst (x_at tdX12_newName 15 rfl) k_c_3 ?_
      refine x_cVv (as := [.int 3]) (rest := []) mi_X12_wrong vc_12 (lM_0 h) (x_at tdX12_newName 16 rfl) wm_X12_267 rfl (Nat.le_of_ble_eq_true rfl) rfl H (fun S4 H => ?_)
      refine x_weak (lv' := [(0, .ref (x_ad (gM h) 0)), (1, .int x1), (2, .int x2)]) ⟨rfl, rfl, rfl, trivial⟩ ?_
      exact H
  · have H := H.2 c
    refine x_aload_n (x_at tdX12_newName 5 rfl) rfl rfl ?_
    refine x_iconst (x_at tdX12_newName 6 rfl) k_c_2 ?_
    refine x_cVv (as := [.int 2]) (rest := []) mi_X12_wrong vc_12 (lM_0 h) (x_at tdX12_newName 7 rfl) wm_X12_267 rfl (Nat.le_of_ble_eq_true rfl) rfl H (fun S5 H => ?_)
    refine x_goto 33 (x_at tdX12_newName 8 rfl) rfl ?_
    refine x_weak (lv' := [(0, .ref (x_ad (gM h) 0)), (1, .int x1), (2, .int x2)]) ⟨rfl, rfl, rfl, trivial⟩ ?_
    exact H
theorem b_M_newName_33 {h : xH} {d : Nat}  {x1 : Int32} {x2 : Int32} {S : xSt} {K : xSt → Prop}  (H : (((S.1 0 2) ≤ 0 → (vp_in (x1 + x2) 22 ∧ M_M_token h d (x_putL S 2 ((x1 + x2) : Int32).toNatClampNeg (S.2.1 0 9)) (fun (S1 : xSt) => K S1))) ∧ (¬ (S.1 0 2) ≤ 0 → K S))) : B_M_newName_33 h d x1 x2 S K := by
  unfold B_M_newName_33
  refine x_aload_n (x_at tdX12_newName 17 rfl) rfl rfl ?_
  refine gfM_0_2 (x_at tdX12_newName 18 rfl) wf_X12_212 ?_
  refine x_if_le 41 (x_at tdX12_newName 19 rfl) rfl (fun c => ?_) (fun c => ?_)
  · have H := H.1 c
    refine x_aload_n (x_at tdX12_newName 21 rfl) rfl rfl ?_
    refine gfM_0_10 (x_at tdX12_newName 22 rfl) wf_X12_17 ?_
    refine x_iload_n (x_at tdX12_newName 23 rfl) rfl rfl ?_
    refine x_iload_n (x_at tdX12_newName 24 rfl) rfl rfl ?_
    refine x_iadd (x_at tdX12_newName 25 rfl) ?_
    refine x_aload_n (x_at tdX12_newName 26 rfl) rfl rfl ?_
    refine gfM_0_9 (x_at tdX12_newName 27 rfl) wf_X12_192 ?_
    refine x_last (lM_2 h) (x_at tdX12_newName 28 rfl) H.1 ?_
    have H := H.2
    refine x_aload_n (x_at tdX12_newName 29 rfl) rfl rfl ?_
    refine x_cVv (as := []) (rest := []) mi_X12_token vc_12 (lM_0 h) (x_at tdX12_newName 30 rfl) wm_X12_270 rfl (Nat.le_of_ble_eq_true rfl) rfl H (fun S1 H => ?_)
    exact x_return rfl (x_at tdX12_newName 31 rfl) ⟨rfl, H⟩
  · have H := H.2 c
    exact x_return rfl (x_at tdX12_newName 20 rfl) ⟨rfl, H⟩
theorem e_M_oldName {h : xH} {d : Nat} {x1 : Int32} {x2 : Int32} {S : xSt} {K : Int32 → xSt → Prop}  (H : (((S.1 0 2) ≤ 0 → M_M_isName h d S (fun (r1 : Int32) (S1 : xSt) => ((¬ r1 = 0 → M_M_find h (d + 1) x1 x2 S1 (fun (r2 : Int32) (S2 : xSt) => ((0 ≤ r2 → B_M_oldName_38 h d x1 x2 S2 K) ∧ (¬ 0 ≤ r2 → M_M_wrong h (d + 1) 5 S2 (fun (S3 : xSt) => B_M_oldName_38 h d x1 x2 S3 K))))) ∧ (r1 = 0 → M_M_wrong h (d + 1) 2 S1 (fun (S4 : xSt) => B_M_oldName_38 h d x1 x2 S4 K))))) ∧ (¬ (S.1 0 2) ≤ 0 → K 0 S))) : M_M_oldName h d x1 x2 S K := by
  refine x_enter pn_X12 (Nat.le_of_ble_eq_true rfl) ?_
  show X (gM h) _ _ 0 [(0, .ref (x_ad (gM h) 0)), (1, .int x1), (2, .int x2)] [] S _
  refine x_aload_n (x_at tdX12_oldName 0 rfl) rfl rfl ?_
  refine gfM_0_2 (x_at tdX12_oldName 1 rfl) wf_X12_212 ?_
  refine x_if_le 9 (x_at tdX12_oldName 2 rfl) rfl (fun c => ?_) (fun c => ?_)
  · have H := H.1 c
    refine x_aload_n (x_at tdX12_oldName 5 rfl) rfl rfl ?_
    refine x_cVi (as := []) (rest := []) mi_X12_isName vc_12 (lM_0 h) (x_at tdX12_oldName 6 rfl) wm_X12_285 rfl (Nat.le_of_ble_eq_true rfl) rfl H (fun r1 S1 H => ?_)
    refine x_if_ne 24 (x_at tdX12_oldName 7 rfl) rfl (fun c => ?_) (fun c => ?_)
    · have H := H.1 c
      refine x_aload_n (x_at tdX12_oldName 12 rfl) rfl rfl ?_
      refine x_iload_n (x_at tdX12_oldName 13 rfl) rfl rfl ?_
      refine x_iload_n (x_at tdX12_oldName 14 rfl) rfl rfl ?_
      refine x_cVi (as := [.int x1, .int x2]) (rest := []) mi_X12_find vc_12 (lM_0 h) (x_at tdX12_oldName 15 rfl) wm_X12_288 rfl (Nat.le_of_ble_eq_true rfl) rfl H (fun r2 S2 H => ?_)
      refine x_if_ge 38 (x_at tdX12_oldName 16 rfl) rfl (fun c => ?_) (fun c => ?_)
      · have H := H.1 c
        refine x_weak (lv' := [(0, .ref (x_ad (gM h) 0)), (1, .int x1), (2, .int x2)]) ⟨rfl, rfl, rfl, trivial⟩ ?_
        exact H
      · have H := H.2 c
        refine x_aload_n (x_at tdX12_oldName 17 rfl) rfl rfl ?_
        refine x_iconst (x_at tdX12_oldName 18 rfl) k_c_5 ?_
        refine x_cVv (as := [.int 5]) (rest := []) mi_X12_wrong vc_12 (lM_0 h) (x_at tdX12_oldName 19 rfl) wm_X12_267 rfl (Nat.le_of_ble_eq_true rfl) rfl H (fun S3 H => ?_)
        refine x_weak (lv' := [(0, .ref (x_ad (gM h) 0)), (1, .int x1), (2, .int x2)]) ⟨rfl, rfl, rfl, trivial⟩ ?_
        exact H
    · have H := H.2 c
      refine x_aload_n (x_at tdX12_oldName 8 rfl) rfl rfl ?_
      refine x_iconst (x_at tdX12_oldName 9 rfl) k_c_2 ?_
      refine x_cVv (as := [.int 2]) (rest := []) mi_X12_wrong vc_12 (lM_0 h) (x_at tdX12_oldName 10 rfl) wm_X12_267 rfl (Nat.le_of_ble_eq_true rfl) rfl H (fun S4 H => ?_)
      refine x_goto 38 (x_at tdX12_oldName 11 rfl) rfl ?_
      refine x_weak (lv' := [(0, .ref (x_ad (gM h) 0)), (1, .int x1), (2, .int x2)]) ⟨rfl, rfl, rfl, trivial⟩ ?_
      exact H
  · have H := H.2 c
    refine x_iconst (x_at tdX12_oldName 3 rfl) k_c_0 ?_
    exact x_ireturn (ty := .int) rfl rfl (x_at tdX12_oldName 4 rfl) ⟨_, rfl, H⟩
theorem b_M_oldName_38 {h : xH} {d : Nat}  {x1 : Int32} {x2 : Int32} {S : xSt} {K : Int32 → xSt → Prop}  (H : (((S.1 0 2) ≤ 0 → M_M_find h (d + 1) x1 x2 S (fun (r1 : Int32) (S1 : xSt) => K r1 S1)) ∧ (¬ (S.1 0 2) ≤ 0 → K 0 S))) : B_M_oldName_38 h d x1 x2 S K := by
  unfold B_M_oldName_38
  refine x_aload_n (x_at tdX12_oldName 20 rfl) rfl rfl ?_
  refine gfM_0_2 (x_at tdX12_oldName 21 rfl) wf_X12_212 ?_
  refine x_if_le 49 (x_at tdX12_oldName 22 rfl) rfl (fun c => ?_) (fun c => ?_)
  · have H := H.1 c
    refine x_aload_n (x_at tdX12_oldName 25 rfl) rfl rfl ?_
    refine x_iload_n (x_at tdX12_oldName 26 rfl) rfl rfl ?_
    refine x_iload_n (x_at tdX12_oldName 27 rfl) rfl rfl ?_
    refine x_cVi (as := [.int x1, .int x2]) (rest := []) mi_X12_find vc_12 (lM_0 h) (x_at tdX12_oldName 28 rfl) wm_X12_288 rfl (Nat.le_of_ble_eq_true rfl) rfl H (fun r1 S1 H => ?_)
    exact x_ireturn (ty := .int) rfl rfl (x_at tdX12_oldName 29 rfl) ⟨_, rfl, H⟩
  · have H := H.2 c
    refine x_iconst (x_at tdX12_oldName 23 rfl) k_c_0 ?_
    refine x_goto 55 (x_at tdX12_oldName 24 rfl) rfl ?_
    exact x_ireturn (ty := .int) rfl rfl (x_at tdX12_oldName 29 rfl) ⟨_, rfl, H⟩
theorem e_M_toldNumber {h : xH} {d : Nat} {x1 : Int32} {x2 : Int32} {S : xSt} {K : Int32 → xSt → Prop}  (H : (((S.1 0 2) ≤ 0 → (((S.1 0 6) = 2 → (((S.1 0 8) < x1 → B_M_toldNumber_41 h d S K) ∧ (¬ (S.1 0 8) < x1 → (((S.1 0 8) ≤ x2 → B_M_toldNumber_46 h d S K) ∧ (¬ (S.1 0 8) ≤ x2 → B_M_toldNumber_41 h d S K))))) ∧ (¬ (S.1 0 6) = 2 → M_M_wrong h (d + 1) 2 S (fun (S1 : xSt) => B_M_toldNumber_46 h d S1 K)))) ∧ (¬ (S.1 0 2) ≤ 0 → K 0 S))) : M_M_toldNumber h d x1 x2 S K := by
  refine x_enter pn_X12 (Nat.le_of_ble_eq_true rfl) ?_
  show X (gM h) _ _ 0 [(0, .ref (x_ad (gM h) 0)), (1, .int x1), (2, .int x2)] [] S _
  refine x_aload_n (x_at tdX12_toldNumber 0 rfl) rfl rfl ?_
  refine gfM_0_2 (x_at tdX12_toldNumber 1 rfl) wf_X12_212 ?_
  refine x_if_le 9 (x_at tdX12_toldNumber 2 rfl) rfl (fun c => ?_) (fun c => ?_)
  · have H := H.1 c
    refine x_aload_n (x_at tdX12_toldNumber 5 rfl) rfl rfl ?_
    refine gfM_0_6 (x_at tdX12_toldNumber 6 rfl) wf_X12_199 ?_
    refine x_iconst (x_at tdX12_toldNumber 7 rfl) k_c_2 ?_
    refine x_ic_eq 25 (x_at tdX12_toldNumber 8 rfl) rfl (fun c => ?_) (fun c => ?_)
    · have H := H.1 c
      refine x_aload_n (x_at tdX12_toldNumber 13 rfl) rfl rfl ?_
      refine gfM_0_8 (x_at tdX12_toldNumber 14 rfl) wf_X12_196 ?_
      refine x_iload_n (x_at tdX12_toldNumber 15 rfl) rfl rfl ?_
      refine x_ic_lt 41 (x_at tdX12_toldNumber 16 rfl) rfl (fun c => ?_) (fun c => ?_)
      · have H := H.1 c
        refine x_weak (lv' := [(0, .ref (x_ad (gM h) 0))]) ⟨rfl, trivial⟩ ?_
        exact H
      · have H := H.2 c
        refine x_aload_n (x_at tdX12_toldNumber 17 rfl) rfl rfl ?_
        refine gfM_0_8 (x_at tdX12_toldNumber 18 rfl) wf_X12_196 ?_
        refine x_iload_n (x_at tdX12_toldNumber 19 rfl) rfl rfl ?_
        refine x_ic_le 46 (x_at tdX12_toldNumber 20 rfl) rfl (fun c => ?_) (fun c => ?_)
        · have H := H.1 c
          refine x_weak (lv' := [(0, .ref (x_ad (gM h) 0))]) ⟨rfl, trivial⟩ ?_
          exact H
        · have H := H.2 c
          refine x_weak (lv' := [(0, .ref (x_ad (gM h) 0))]) ⟨rfl, trivial⟩ ?_
          exact H
    · have H := H.2 c
      refine x_aload_n (x_at tdX12_toldNumber 9 rfl) rfl rfl ?_
      refine x_iconst (x_at tdX12_toldNumber 10 rfl) k_c_2 ?_
      refine x_cVv (as := [.int 2]) (rest := []) mi_X12_wrong vc_12 (lM_0 h) (x_at tdX12_toldNumber 11 rfl) wm_X12_267 rfl (Nat.le_of_ble_eq_true rfl) rfl H (fun S1 H => ?_)
      refine x_goto 46 (x_at tdX12_toldNumber 12 rfl) rfl ?_
      refine x_weak (lv' := [(0, .ref (x_ad (gM h) 0))]) ⟨rfl, trivial⟩ ?_
      exact H
  · have H := H.2 c
    refine x_iconst (x_at tdX12_toldNumber 3 rfl) k_c_0 ?_
    exact x_ireturn (ty := .int) rfl rfl (x_at tdX12_toldNumber 4 rfl) ⟨_, rfl, H⟩
theorem b_M_toldNumber_41 {h : xH} {d : Nat}   {S : xSt} {K : Int32 → xSt → Prop}  (H : M_M_wrong h (d + 1) 4 S (fun (S1 : xSt) => B_M_toldNumber_46 h d S1 K)) : B_M_toldNumber_41 h d S K := by
  unfold B_M_toldNumber_41
  refine x_aload_n (x_at tdX12_toldNumber 21 rfl) rfl rfl ?_
  refine x_iconst (x_at tdX12_toldNumber 22 rfl) k_c_4 ?_
  refine x_cVv (as := [.int 4]) (rest := []) mi_X12_wrong vc_12 (lM_0 h) (x_at tdX12_toldNumber 23 rfl) wm_X12_267 rfl (Nat.le_of_ble_eq_true rfl) rfl H (fun S1 H => ?_)
  refine x_weak (lv' := [(0, .ref (x_ad (gM h) 0))]) ⟨rfl, trivial⟩ ?_
  exact H
theorem b_M_toldNumber_46 {h : xH} {d : Nat}   {S : xSt} {K : Int32 → xSt → Prop}  (H : ((¬ (S.1 0 2) = 0 → K (S.1 0 8) S) ∧ ((S.1 0 2) = 0 → M_M_token h d S (fun (S1 : xSt) => K (S.1 0 8) S1)))) : B_M_toldNumber_46 h d S K := by
  unfold B_M_toldNumber_46
  refine x_aload_n (x_at tdX12_toldNumber 24 rfl) rfl rfl ?_
  refine gfM_0_8 (x_at tdX12_toldNumber 25 rfl) wf_X12_196 ?_
  refine x_istore_n (x_at tdX12_toldNumber 26 rfl) rfl (by decide) ?_
  refine x_aload_n (x_at tdX12_toldNumber 27 rfl) rfl rfl ?_
  refine gfM_0_2 (x_at tdX12_toldNumber 28 rfl) wf_X12_212 ?_
  refine x_if_ne 62 (x_at tdX12_toldNumber 29 rfl) rfl (fun c => ?_) (fun c => ?_)
  · have H := H.1 c
    refine x_iload_n (x_at tdX12_toldNumber 32 rfl) rfl rfl ?_
    exact x_ireturn (ty := .int) rfl rfl (x_at tdX12_toldNumber 33 rfl) ⟨_, rfl, H⟩
  · have H := H.2 c
    refine x_aload_n (x_at tdX12_toldNumber 30 rfl) rfl rfl ?_
    refine x_cVv (as := []) (rest := []) mi_X12_token vc_12 (lM_0 h) (x_at tdX12_toldNumber 31 rfl) wm_X12_270 rfl (Nat.le_of_ble_eq_true rfl) rfl H (fun S1 H => ?_)
    refine x_iload_n (x_at tdX12_toldNumber 32 rfl) rfl rfl ?_
    exact x_ireturn (ty := .int) rfl rfl (x_at tdX12_toldNumber 33 rfl) ⟨_, rfl, H⟩
theorem e_M_want {h : xH} {d : Nat} {x1 : Int64} {S : xSt} {K : xSt → Prop}  (H : (((S.1 0 2) ≤ 0 → M_M_isWord h (d + 1) x1 S (fun (r1 : Int32) (S1 : xSt) => ((¬ r1 = 0 → M_M_token h d S1 (fun (S2 : xSt) => K S2)) ∧ (r1 = 0 → M_M_wrong h (d + 1) 2 S1 (fun (S3 : xSt) => K S3))))) ∧ (¬ (S.1 0 2) ≤ 0 → K S))) : M_M_want h d x1 S K := by
  refine x_enter pn_X12 (Nat.le_of_ble_eq_true rfl) ?_
  show X (gM h) _ _ 0 [(0, .ref (x_ad (gM h) 0)), (1, .long x1)] [] S _
  refine x_aload_n (x_at tdX12_want 0 rfl) rfl rfl ?_
  refine gfM_0_2 (x_at tdX12_want 1 rfl) wf_X12_212 ?_
  refine x_if_le 8 (x_at tdX12_want 2 rfl) rfl (fun c => ?_) (fun c => ?_)
  · have H := H.1 c
    refine x_aload_n (x_at tdX12_want 4 rfl) rfl rfl ?_
    refine x_lload_n (x_at tdX12_want 5 rfl) rfl rfl ?_
    refine x_cVi (as := [.long x1]) (rest := []) mi_X12_isWord vc_12 (lM_0 h) (x_at tdX12_want 6 rfl) wm_X12_263 rfl (Nat.le_of_ble_eq_true rfl) rfl H (fun r1 S1 H => ?_)
    refine x_if_ne 24 (x_at tdX12_want 7 rfl) rfl (fun c => ?_) (fun c => ?_)
    · have H := H.1 c
      refine x_aload_n (x_at tdX12_want 12 rfl) rfl rfl ?_
      refine x_cVv (as := []) (rest := []) mi_X12_token vc_12 (lM_0 h) (x_at tdX12_want 13 rfl) wm_X12_270 rfl (Nat.le_of_ble_eq_true rfl) rfl H (fun S2 H => ?_)
      exact x_return rfl (x_at tdX12_want 14 rfl) ⟨rfl, H⟩
    · have H := H.2 c
      refine x_aload_n (x_at tdX12_want 8 rfl) rfl rfl ?_
      refine x_iconst (x_at tdX12_want 9 rfl) k_c_2 ?_
      refine x_cVv (as := [.int 2]) (rest := []) mi_X12_wrong vc_12 (lM_0 h) (x_at tdX12_want 10 rfl) wm_X12_267 rfl (Nat.le_of_ble_eq_true rfl) rfl H (fun S3 H => ?_)
      refine x_goto 28 (x_at tdX12_want 11 rfl) rfl ?_
      exact x_return rfl (x_at tdX12_want 14 rfl) ⟨rfl, H⟩
  · have H := H.2 c
    exact x_return rfl (x_at tdX12_want 3 rfl) ⟨rfl, H⟩
theorem e_M_told {h : xH} {d : Nat} {x1 : Int64} {x3 : Int32} {x4 : Int32} {S : xSt} {K : Int32 → xSt → Prop}  (H : M_M_want h d x1 S (fun (S1 : xSt) => M_M_toldNumber h d x3 x4 S1 (fun (r2 : Int32) (S2 : xSt) => K r2 S2))) : M_M_told h d x1 x3 x4 S K := by
  refine x_enter pn_X12 (Nat.le_of_ble_eq_true rfl) ?_
  show X (gM h) _ _ 0 [(0, .ref (x_ad (gM h) 0)), (1, .long x1), (3, .int x3), (4, .int x4)] [] S _
  refine x_aload_n (x_at tdX12_told 0 rfl) rfl rfl ?_
  refine x_lload_n (x_at tdX12_told 1 rfl) rfl rfl ?_
  refine x_cVv (as := [.long x1]) (rest := []) mi_X12_want vc_12 (lM_0 h) (x_at tdX12_told 2 rfl) wm_X12_273 rfl (Nat.le_of_ble_eq_true rfl) rfl H (fun S1 H => ?_)
  refine x_aload_n (x_at tdX12_told 3 rfl) rfl rfl ?_
  refine x_iload_n (x_at tdX12_told 4 rfl) rfl rfl ?_
  refine x_iload (x_at tdX12_told 5 rfl) rfl ?_
  refine x_cVi (as := [.int x3, .int x4]) (rest := []) mi_X12_toldNumber vc_12 (lM_0 h) (x_at tdX12_told 6 rfl) wm_X12_277 rfl (Nat.le_of_ble_eq_true rfl) rfl H (fun r2 S2 H => ?_)
  exact x_ireturn (ty := .int) rfl rfl (x_at tdX12_told 7 rfl) ⟨_, rfl, H⟩
theorem e_M_option {h : xH} {d : Nat} {x1 : Int64} {x3 : Int32} {x4 : Int32} {x5 : Int32} {S : xSt} {K : Int32 → xSt → Prop}  (H : ((¬ (S.1 0 2) = 0 → K x5 S) ∧ ((S.1 0 2) = 0 → M_M_isWord h (d + 3) x1 S (fun (r1 : Int32) (S1 : xSt) => ((r1 = 0 → K x5 S1) ∧ (¬ r1 = 0 → M_M_told h d x1 x3 x4 S1 (fun (r2 : Int32) (S2 : xSt) => K r2 S2))))))) : M_M_option h d x1 x3 x4 x5 S K := by
  refine x_enter pn_X12 (Nat.le_of_ble_eq_true rfl) ?_
  show X (gM h) _ _ 0 [(0, .ref (x_ad (gM h) 0)), (1, .long x1), (3, .int x3), (4, .int x4), (5, .int x5)] [] S _
  refine x_aload_n (x_at tdX12_option 0 rfl) rfl rfl ?_
  refine gfM_0_2 (x_at tdX12_option 1 rfl) wf_X12_212 ?_
  refine x_if_ne 26 (x_at tdX12_option 2 rfl) rfl (fun c => ?_) (fun c => ?_)
  · have H := H.1 c
    refine x_iload (x_at tdX12_option 13 rfl) rfl ?_
    exact x_ireturn (ty := .int) rfl rfl (x_at tdX12_option 14 rfl) ⟨_, rfl, H⟩
  · have H := H.2 c
    refine x_aload_n (x_at tdX12_option 3 rfl) rfl rfl ?_
    refine x_lload_n (x_at tdX12_option 4 rfl) rfl rfl ?_
    refine x_cVi (as := [.long x1]) (rest := []) mi_X12_isWord vc_12 (lM_0 h) (x_at tdX12_option 5 rfl) wm_X12_263 rfl (Nat.le_of_ble_eq_true rfl) rfl H (fun r1 S1 H => ?_)
    refine x_if_eq 26 (x_at tdX12_option 6 rfl) rfl (fun c => ?_) (fun c => ?_)
    · have H := H.1 c
      refine x_iload (x_at tdX12_option 13 rfl) rfl ?_
      exact x_ireturn (ty := .int) rfl rfl (x_at tdX12_option 14 rfl) ⟨_, rfl, H⟩
    · have H := H.2 c
      refine x_aload_n (x_at tdX12_option 7 rfl) rfl rfl ?_
      refine x_lload_n (x_at tdX12_option 8 rfl) rfl rfl ?_
      refine x_iload_n (x_at tdX12_option 9 rfl) rfl rfl ?_
      refine x_iload (x_at tdX12_option 10 rfl) rfl ?_
      refine x_cVi (as := [.long x1, .int x3, .int x4]) (rest := []) mi_X12_told vc_12 (lM_0 h) (x_at tdX12_option 11 rfl) wm_X12_281 rfl (Nat.le_of_ble_eq_true rfl) rfl H (fun r2 S2 H => ?_)
      refine x_goto 28 (x_at tdX12_option 12 rfl) rfl ?_
      exact x_ireturn (ty := .int) rfl rfl (x_at tdX12_option 14 rfl) ⟨_, rfl, H⟩
theorem e_M_readButton {h : xH} {d : Nat}  {S : xSt} {K : xSt → Prop}  (H : M_M_newName h (d + 2) 12 (S.1 0 51) S (fun (S1 : xSt) => M_M_want h (d + 2) 28526 S1 (fun (S2 : xSt) => M_M_oldName h (d + 2) 0 (S2.1 0 49) S2 (fun (r3 : Int32) (S3 : xSt) => (vp_in (S1.1 0 51) 10 ∧ ((¬ (S3.1 0 2) = 0 → B_M_readButton_48 h d (S1.1 0 51) (x_putI S3 20 ((S1.1 0 51) : Int32).toNatClampNeg r3) K) ∧ ((S3.1 0 2) = 0 → M_M_token h (d + 3) (x_putI S3 20 ((S1.1 0 51) : Int32).toNatClampNeg r3) (fun (S4 : xSt) => B_M_readButton_48 h d (S1.1 0 51) S4 K)))))))) : M_M_readButton h d S K := by
  refine x_enter pn_X12 (Nat.le_of_ble_eq_true rfl) ?_
  show X (gM h) _ _ 0 [(0, .ref (x_ad (gM h) 0))] [] S _
  refine x_aload_n (x_at tdX12_readButton 0 rfl) rfl rfl ?_
  refine x_bipush (x_at tdX12_readButton 1 rfl) k_b_12 ?_
  refine x_aload_n (x_at tdX12_readButton 2 rfl) rfl rfl ?_
  refine gfM_0_51 (x_at tdX12_readButton 3 rfl) wf_X12_372 ?_
  refine x_cVv (as := [.int 12, .int (S.1 0 51)]) (rest := []) mi_X12_newName vc_12 (lM_0 h) (x_at tdX12_readButton 4 rfl) wm_X12_362 rfl (Nat.le_of_ble_eq_true rfl) rfl H (fun S1 H => ?_)
  refine x_aload_n (x_at tdX12_readButton 5 rfl) rfl rfl ?_
  refine gfM_0_51 (x_at tdX12_readButton 6 rfl) wf_X12_372 ?_
  refine x_istore_n (x_at tdX12_readButton 7 rfl) rfl (by decide) ?_
  refine x_aload_n (x_at tdX12_readButton 8 rfl) rfl rfl ?_
  refine x_ldc2 (x_at tdX12_readButton 9 rfl) wk_X12_229 ?_
  refine x_cVv (as := [.long 28526]) (rest := []) mi_X12_want vc_12 (lM_0 h) (x_at tdX12_readButton 10 rfl) wm_X12_273 rfl (Nat.le_of_ble_eq_true rfl) rfl H (fun S2 H => ?_)
  refine x_aload_n (x_at tdX12_readButton 11 rfl) rfl rfl ?_
  refine gfM_0_35 (x_at tdX12_readButton 12 rfl) wf_X12_72 ?_
  refine x_iload_n (x_at tdX12_readButton 13 rfl) rfl rfl ?_
  refine x_aload_n (x_at tdX12_readButton 14 rfl) rfl rfl ?_
  refine x_iconst (x_at tdX12_readButton 15 rfl) k_c_0 ?_
  refine x_aload_n (x_at tdX12_readButton 16 rfl) rfl rfl ?_
  refine gfM_0_49 (x_at tdX12_readButton 17 rfl) wf_X12_359 ?_
  refine x_cVi (as := [.int 0, .int (S2.1 0 49)]) (rest := [.int (S1.1 0 51), .ref (x_ad (gM h) 20)]) mi_X12_oldName vc_12 (lM_0 h) (x_at tdX12_readButton 18 rfl) wm_X12_375 rfl (Nat.le_of_ble_eq_true rfl) rfl H (fun r3 S3 H => ?_)
  refine x_iast (lM_20 h) (x_at tdX12_readButton 19 rfl) H.1 ?_
  have H := H.2
  refine x_aload_n (x_at tdX12_readButton 20 rfl) rfl rfl ?_
  refine gfM_0_2 (x_at tdX12_readButton 21 rfl) wf_X12_212 ?_
  refine x_top (v := (S3.1 0 2)) rfl ?_
  refine x_if_ne 48 (x_at tdX12_readButton 22 rfl) rfl (fun c => ?_) (fun c => ?_)
  · have H := H.1 c
    refine x_weak (lv' := [(0, .ref (x_ad (gM h) 0)), (1, .int (S1.1 0 51))]) ⟨rfl, rfl, trivial⟩ ?_
    exact H
  · have H := H.2 c
    refine x_aload_n (x_at tdX12_readButton 23 rfl) rfl rfl ?_
    refine x_cVv (as := []) (rest := []) mi_X12_token vc_12 (lM_0 h) (x_at tdX12_readButton 24 rfl) wm_X12_270 rfl (Nat.le_of_ble_eq_true rfl) rfl H (fun S4 H => ?_)
    refine x_weak (lv' := [(0, .ref (x_ad (gM h) 0)), (1, .int (S1.1 0 51))]) ⟨rfl, rfl, trivial⟩ ?_
    exact H
theorem b_M_readButton_48 {h : xH} {d : Nat}  {x1 : Int32} {S : xSt} {K : xSt → Prop}  (H : M_M_want h (d + 2) 25209 S (fun (S1 : xSt) => M_M_oldName h (d + 2) 0 (S1.1 0 49) S1 (fun (r2 : Int32) (S2 : xSt) => (vp_in x1 10 ∧ ((¬ (S2.1 0 2) = 0 → B_M_readButton_97 h d x1 (x_putI S2 21 (x1 : Int32).toNatClampNeg r2) K) ∧ ((S2.1 0 2) = 0 → (vp_in x1 10 ∧ (vp_in x1 10 ∧ ((¬ r2 = (S2.1 20 (x1 : Int32).toNatClampNeg) → B_M_readButton_97 h d x1 (x_putI S2 21 (x1 : Int32).toNatClampNeg r2) K) ∧ (r2 = (S2.1 20 (x1 : Int32).toNatClampNeg) → M_M_wrong h (d + 4) 3 (x_putI S2 21 (x1 : Int32).toNatClampNeg r2) (fun (S3 : xSt) => B_M_readButton_97 h d x1 S3 K))))))))))) : B_M_readButton_48 h d x1 S K := by
  unfold B_M_readButton_48
  refine x_aload_n (x_at tdX12_readButton 25 rfl) rfl rfl ?_
  refine x_ldc2 (x_at tdX12_readButton 26 rfl) wk_X12_231 ?_
  refine x_cVv (as := [.long 25209]) (rest := []) mi_X12_want vc_12 (lM_0 h) (x_at tdX12_readButton 27 rfl) wm_X12_273 rfl (Nat.le_of_ble_eq_true rfl) rfl H (fun S1 H => ?_)
  refine x_aload_n (x_at tdX12_readButton 28 rfl) rfl rfl ?_
  refine gfM_0_36 (x_at tdX12_readButton 29 rfl) wf_X12_75 ?_
  refine x_iload_n (x_at tdX12_readButton 30 rfl) rfl rfl ?_
  refine x_aload_n (x_at tdX12_readButton 31 rfl) rfl rfl ?_
  refine x_iconst (x_at tdX12_readButton 32 rfl) k_c_0 ?_
  refine x_aload_n (x_at tdX12_readButton 33 rfl) rfl rfl ?_
  refine gfM_0_49 (x_at tdX12_readButton 34 rfl) wf_X12_359 ?_
  refine x_cVi (as := [.int 0, .int (S1.1 0 49)]) (rest := [.int x1, .ref (x_ad (gM h) 21)]) mi_X12_oldName vc_12 (lM_0 h) (x_at tdX12_readButton 35 rfl) wm_X12_375 rfl (Nat.le_of_ble_eq_true rfl) rfl H (fun r2 S2 H => ?_)
  refine x_iast (lM_21 h) (x_at tdX12_readButton 36 rfl) H.1 ?_
  have H := H.2
  refine x_aload_n (x_at tdX12_readButton 37 rfl) rfl rfl ?_
  refine gfM_0_2 (x_at tdX12_readButton 38 rfl) wf_X12_212 ?_
  refine x_top (v := (S2.1 0 2)) rfl ?_
  refine x_if_ne 97 (x_at tdX12_readButton 39 rfl) rfl (fun c => ?_) (fun c => ?_)
  · have H := H.1 c
    refine x_weak (lv' := [(0, .ref (x_ad (gM h) 0)), (1, .int x1)]) ⟨rfl, rfl, trivial⟩ ?_
    exact H
  · have H := H.2 c
    refine x_aload_n (x_at tdX12_readButton 40 rfl) rfl rfl ?_
    refine gfM_0_36 (x_at tdX12_readButton 41 rfl) wf_X12_75 ?_
    refine x_iload_n (x_at tdX12_readButton 42 rfl) rfl rfl ?_
    refine x_iald (lM_21 h) (x_at tdX12_readButton 43 rfl) H.1 ?_
    have H := H.2
    refine x_top (v := r2) (by simp [x_putI, upd]) ?_
    refine x_aload_n (x_at tdX12_readButton 44 rfl) rfl rfl ?_
    refine gfM_0_35 (x_at tdX12_readButton 45 rfl) wf_X12_72 ?_
    refine x_iload_n (x_at tdX12_readButton 46 rfl) rfl rfl ?_
    refine x_iald (lM_20 h) (x_at tdX12_readButton 47 rfl) H.1 ?_
    have H := H.2
    refine x_top (v := (S2.1 20 (x1 : Int32).toNatClampNeg)) rfl ?_
    refine x_ic_ne 97 (x_at tdX12_readButton 48 rfl) rfl (fun c => ?_) (fun c => ?_)
    · have H := H.1 c
      refine x_weak (lv' := [(0, .ref (x_ad (gM h) 0)), (1, .int x1)]) ⟨rfl, rfl, trivial⟩ ?_
      exact H
    · have H := H.2 c
      refine x_aload_n (x_at tdX12_readButton 49 rfl) rfl rfl ?_
      refine x_iconst (x_at tdX12_readButton 50 rfl) k_c_3 ?_
      refine x_cVv (as := [.int 3]) (rest := []) mi_X12_wrong vc_12 (lM_0 h) (x_at tdX12_readButton 51 rfl) wm_X12_267 rfl (Nat.le_of_ble_eq_true rfl) rfl H (fun S3 H => ?_)
      refine x_weak (lv' := [(0, .ref (x_ad (gM h) 0)), (1, .int x1)]) ⟨rfl, rfl, trivial⟩ ?_
      exact H
theorem b_M_readButton_97 {h : xH} {d : Nat}  {x1 : Int32} {S : xSt} {K : xSt → Prop}  (H : ((¬ (S.1 0 2) = 0 → B_M_readButton_108 h d x1 S K) ∧ ((S.1 0 2) = 0 → M_M_token h (d + 3) S (fun (S1 : xSt) => B_M_readButton_108 h d x1 S1 K)))) : B_M_readButton_97 h d x1 S K := by
  unfold B_M_readButton_97
  refine x_aload_n (x_at tdX12_readButton 52 rfl) rfl rfl ?_
  refine gfM_0_2 (x_at tdX12_readButton 53 rfl) wf_X12_212 ?_
  refine x_if_ne 108 (x_at tdX12_readButton 54 rfl) rfl (fun c => ?_) (fun c => ?_)
  · have H := H.1 c
    refine x_weak (lv' := [(0, .ref (x_ad (gM h) 0)), (1, .int x1)]) ⟨rfl, rfl, trivial⟩ ?_
    exact H
  · have H := H.2 c
    refine x_aload_n (x_at tdX12_readButton 55 rfl) rfl rfl ?_
    refine x_cVv (as := []) (rest := []) mi_X12_token vc_12 (lM_0 h) (x_at tdX12_readButton 56 rfl) wm_X12_270 rfl (Nat.le_of_ble_eq_true rfl) rfl H (fun S1 H => ?_)
    refine x_weak (lv' := [(0, .ref (x_ad (gM h) 0)), (1, .int x1)]) ⟨rfl, rfl, trivial⟩ ?_
    exact H
theorem b_M_readButton_108 {h : xH} {d : Nat}  {x1 : Int32} {S : xSt} {K : xSt → Prop}  (H : ((¬ (S.1 0 2) = 0 → B_M_readButton_140 h d x1 S K) ∧ ((S.1 0 2) = 0 → M_M_isWord h (d + 4) 1685022067 S (fun (r1 : Int32) (S1 : xSt) => ((¬ r1 = 0 → B_M_readButton_140 h d x1 S1 K) ∧ (r1 = 0 → M_M_isWord h (d + 4) 474148660594 S1 (fun (r2 : Int32) (S2 : xSt) => ((¬ r2 = 0 → B_M_readButton_140 h d x1 S2 K) ∧ (r2 = 0 → M_M_wrong h (d + 4) 2 S2 (fun (S3 : xSt) => B_M_readButton_140 h d x1 S3 K)))))))))) : B_M_readButton_108 h d x1 S K := by
  unfold B_M_readButton_108
  refine x_aload_n (x_at tdX12_readButton 57 rfl) rfl rfl ?_
  refine gfM_0_2 (x_at tdX12_readButton 58 rfl) wf_X12_212 ?_
  refine x_if_ne 140 (x_at tdX12_readButton 59 rfl) rfl (fun c => ?_) (fun c => ?_)
  · have H := H.1 c
    refine x_weak (lv' := [(0, .ref (x_ad (gM h) 0)), (1, .int x1)]) ⟨rfl, rfl, trivial⟩ ?_
    exact H
  · have H := H.2 c
    refine x_aload_n (x_at tdX12_readButton 60 rfl) rfl rfl ?_
    refine x_ldc2 (x_at tdX12_readButton 61 rfl) wk_X12_233 ?_
    refine x_cVi (as := [.long 1685022067]) (rest := []) mi_X12_isWord vc_12 (lM_0 h) (x_at tdX12_readButton 62 rfl) wm_X12_263 rfl (Nat.le_of_ble_eq_true rfl) rfl H (fun r1 S1 H => ?_)
    refine x_if_ne 140 (x_at tdX12_readButton 63 rfl) rfl (fun c => ?_) (fun c => ?_)
    · have H := H.1 c
      refine x_weak (lv' := [(0, .ref (x_ad (gM h) 0)), (1, .int x1)]) ⟨rfl, rfl, trivial⟩ ?_
      exact H
    · have H := H.2 c
      refine x_aload_n (x_at tdX12_readButton 64 rfl) rfl rfl ?_
      refine x_ldc2 (x_at tdX12_readButton 65 rfl) wk_X12_235 ?_
      refine x_cVi (as := [.long 474148660594]) (rest := []) mi_X12_isWord vc_12 (lM_0 h) (x_at tdX12_readButton 66 rfl) wm_X12_263 rfl (Nat.le_of_ble_eq_true rfl) rfl H (fun r2 S2 H => ?_)
      refine x_if_ne 140 (x_at tdX12_readButton 67 rfl) rfl (fun c => ?_) (fun c => ?_)
      · have H := H.1 c
        refine x_weak (lv' := [(0, .ref (x_ad (gM h) 0)), (1, .int x1)]) ⟨rfl, rfl, trivial⟩ ?_
        exact H
      · have H := H.2 c
        refine x_aload_n (x_at tdX12_readButton 68 rfl) rfl rfl ?_
        refine x_iconst (x_at tdX12_readButton 69 rfl) k_c_2 ?_
        refine x_cVv (as := [.int 2]) (rest := []) mi_X12_wrong vc_12 (lM_0 h) (x_at tdX12_readButton 70 rfl) wm_X12_267 rfl (Nat.le_of_ble_eq_true rfl) rfl H (fun S3 H => ?_)
        refine x_weak (lv' := [(0, .ref (x_ad (gM h) 0)), (1, .int x1)]) ⟨rfl, rfl, trivial⟩ ?_
        exact H
theorem b_M_readButton_140 {h : xH} {d : Nat}  {x1 : Int32} {S : xSt} {K : xSt → Prop}  (H : M_M_isWord h (d + 4) 1685022067 S (fun (r1 : Int32) (S1 : xSt) => (vp_in x1 10 ∧ ((¬ (S1.1 0 2) = 0 → B_M_readButton_164 h d x1 (x_putI S1 32 (x1 : Int32).toNatClampNeg (vp_nar .boolean r1)) K) ∧ ((S1.1 0 2) = 0 → M_M_token h (d + 3) (x_putI S1 32 (x1 : Int32).toNatClampNeg (vp_nar .boolean r1)) (fun (S2 : xSt) => B_M_readButton_164 h d x1 S2 K)))))) : B_M_readButton_140 h d x1 S K := by
  unfold B_M_readButton_140
  refine x_aload_n (x_at tdX12_readButton 71 rfl) rfl rfl ?_
  refine gfM_0_47 (x_at tdX12_readButton 72 rfl) wf_X12_108 ?_
  refine x_iload_n (x_at tdX12_readButton 73 rfl) rfl rfl ?_
  refine x_aload_n (x_at tdX12_readButton 74 rfl) rfl rfl ?_
  refine x_ldc2 (x_at tdX12_readButton 75 rfl) wk_X12_233 ?_
  refine x_cVi (as := [.long 1685022067]) (rest := [.int x1, .ref (x_ad (gM h) 32)]) mi_X12_isWord vc_12 (lM_0 h) (x_at tdX12_readButton 76 rfl) wm_X12_263 rfl (Nat.le_of_ble_eq_true rfl) rfl H (fun r1 S1 H => ?_)
  refine x_zast (lM_32 h) (x_at tdX12_readButton 77 rfl) H.1 ?_
  have H := H.2
  refine x_aload_n (x_at tdX12_readButton 78 rfl) rfl rfl ?_
  refine gfM_0_2 (x_at tdX12_readButton 79 rfl) wf_X12_212 ?_
  refine x_top (v := (S1.1 0 2)) rfl ?_
  refine x_if_ne 164 (x_at tdX12_readButton 80 rfl) rfl (fun c => ?_) (fun c => ?_)
  · have H := H.1 c
    refine x_weak (lv' := [(0, .ref (x_ad (gM h) 0)), (1, .int x1)]) ⟨rfl, rfl, trivial⟩ ?_
    exact H
  · have H := H.2 c
    refine x_aload_n (x_at tdX12_readButton 81 rfl) rfl rfl ?_
    refine x_cVv (as := []) (rest := []) mi_X12_token vc_12 (lM_0 h) (x_at tdX12_readButton 82 rfl) wm_X12_270 rfl (Nat.le_of_ble_eq_true rfl) rfl H (fun S2 H => ?_)
    refine x_weak (lv' := [(0, .ref (x_ad (gM h) 0)), (1, .int x1)]) ⟨rfl, rfl, trivial⟩ ?_
    exact H
theorem b_M_readButton_164 {h : xH} {d : Nat}  {x1 : Int32} {S : xSt} {K : xSt → Prop}  (H : M_M_oldName h (d + 2) 6 (S.1 0 50) S (fun (r1 : Int32) (S1 : xSt) => (vp_in x1 10 ∧ ((¬ (S1.1 0 2) = 0 → B_M_readButton_191 h d x1 (x_putI S1 22 (x1 : Int32).toNatClampNeg r1) K) ∧ ((S1.1 0 2) = 0 → M_M_token h (d + 3) (x_putI S1 22 (x1 : Int32).toNatClampNeg r1) (fun (S2 : xSt) => B_M_readButton_191 h d x1 S2 K)))))) : B_M_readButton_164 h d x1 S K := by
  unfold B_M_readButton_164
  refine x_aload_n (x_at tdX12_readButton 83 rfl) rfl rfl ?_
  refine gfM_0_37 (x_at tdX12_readButton 84 rfl) wf_X12_78 ?_
  refine x_iload_n (x_at tdX12_readButton 85 rfl) rfl rfl ?_
  refine x_aload_n (x_at tdX12_readButton 86 rfl) rfl rfl ?_
  refine x_bipush (x_at tdX12_readButton 87 rfl) k_b_6 ?_
  refine x_aload_n (x_at tdX12_readButton 88 rfl) rfl rfl ?_
  refine gfM_0_50 (x_at tdX12_readButton 89 rfl) wf_X12_369 ?_
  refine x_cVi (as := [.int 6, .int (S.1 0 50)]) (rest := [.int x1, .ref (x_ad (gM h) 22)]) mi_X12_oldName vc_12 (lM_0 h) (x_at tdX12_readButton 90 rfl) wm_X12_375 rfl (Nat.le_of_ble_eq_true rfl) rfl H (fun r1 S1 H => ?_)
  refine x_iast (lM_22 h) (x_at tdX12_readButton 91 rfl) H.1 ?_
  have H := H.2
  refine x_aload_n (x_at tdX12_readButton 92 rfl) rfl rfl ?_
  refine gfM_0_2 (x_at tdX12_readButton 93 rfl) wf_X12_212 ?_
  refine x_top (v := (S1.1 0 2)) rfl ?_
  refine x_if_ne 191 (x_at tdX12_readButton 94 rfl) rfl (fun c => ?_) (fun c => ?_)
  · have H := H.1 c
    refine x_weak (lv' := [(0, .ref (x_ad (gM h) 0)), (1, .int x1)]) ⟨rfl, rfl, trivial⟩ ?_
    exact H
  · have H := H.2 c
    refine x_aload_n (x_at tdX12_readButton 95 rfl) rfl rfl ?_
    refine x_cVv (as := []) (rest := []) mi_X12_token vc_12 (lM_0 h) (x_at tdX12_readButton 96 rfl) wm_X12_270 rfl (Nat.le_of_ble_eq_true rfl) rfl H (fun S2 H => ?_)
    refine x_weak (lv' := [(0, .ref (x_ad (gM h) 0)), (1, .int x1)]) ⟨rfl, rfl, trivial⟩ ?_
    exact H
theorem b_M_readButton_191 {h : xH} {d : Nat}  {x1 : Int32} {S : xSt} {K : xSt → Prop}  (H : M_M_option h d 504364296556 1 60 60 S (fun (r1 : Int32) (S1 : xSt) => (vp_in x1 10 ∧ M_M_option h d 127991944667492 1 99 10 (x_putI S1 23 (x1 : Int32).toNatClampNeg r1) (fun (r2 : Int32) (S2 : xSt) => (vp_in x1 10 ∧ (vp_in x1 10 ∧ ((¬ (S2.1 0 2) = 0 → B_M_readButton_282 h d (x_putI (x_putI S2 24 (x1 : Int32).toNatClampNeg r2) 25 (x1 : Int32).toNatClampNeg (-1)) K) ∧ ((S2.1 0 2) = 0 → M_M_isWord h (d + 4) 418330731890 (x_putI (x_putI S2 24 (x1 : Int32).toNatClampNeg r2) 25 (x1 : Int32).toNatClampNeg (-1)) (fun (r3 : Int32) (S3 : xSt) => ((r3 = 0 → B_M_readButton_282 h d S3 K) ∧ (¬ r3 = 0 → M_M_token h (d + 3) S3 (fun (S4 : xSt) => M_M_oldName h (d + 2) 12 (S4.1 0 51) S4 (fun (r5 : Int32) (S5 : xSt) => (vp_in x1 10 ∧ ((¬ (S5.1 0 2) = 0 → B_M_readButton_282 h d (x_putI S5 25 (x1 : Int32).toNatClampNeg r5) K) ∧ ((S5.1 0 2) = 0 → M_M_token h (d + 3) (x_putI S5 25 (x1 : Int32).toNatClampNeg r5) (fun (S6 : xSt) => B_M_readButton_282 h d S6 K))))))))))))))))) : B_M_readButton_191 h d x1 S K := by
  unfold B_M_readButton_191
  refine x_aload_n (x_at tdX12_readButton 97 rfl) rfl rfl ?_
  refine gfM_0_38 (x_at tdX12_readButton 98 rfl) wf_X12_81 ?_
  refine x_iload_n (x_at tdX12_readButton 99 rfl) rfl rfl ?_
  refine x_aload_n (x_at tdX12_readButton 100 rfl) rfl rfl ?_
  refine x_ldc2 (x_at tdX12_readButton 101 rfl) wk_X12_237 ?_
  refine x_iconst (x_at tdX12_readButton 102 rfl) k_c_1 ?_
  refine x_bipush (x_at tdX12_readButton 103 rfl) k_b_60 ?_
  refine x_bipush (x_at tdX12_readButton 104 rfl) k_b_60 ?_
  refine x_cVi (as := [.long 504364296556, .int 1, .int 60, .int 60]) (rest := [.int x1, .ref (x_ad (gM h) 23)]) mi_X12_option vc_12 (lM_0 h) (x_at tdX12_readButton 105 rfl) wm_X12_365 rfl (Nat.le_of_ble_eq_true rfl) rfl H (fun r1 S1 H => ?_)
  refine x_iast (lM_23 h) (x_at tdX12_readButton 106 rfl) H.1 ?_
  have H := H.2
  refine x_aload_n (x_at tdX12_readButton 107 rfl) rfl rfl ?_
  refine gfM_0_39 (x_at tdX12_readButton 108 rfl) wf_X12_84 ?_
  refine x_iload_n (x_at tdX12_readButton 109 rfl) rfl rfl ?_
  refine x_aload_n (x_at tdX12_readButton 110 rfl) rfl rfl ?_
  refine x_ldc2 (x_at tdX12_readButton 111 rfl) wk_X12_239 ?_
  refine x_iconst (x_at tdX12_readButton 112 rfl) k_c_1 ?_
  refine x_bipush (x_at tdX12_readButton 113 rfl) k_b_99 ?_
  refine x_bipush (x_at tdX12_readButton 114 rfl) k_b_10 ?_
  refine x_cVi (as := [.long 127991944667492, .int 1, .int 99, .int 10]) (rest := [.int x1, .ref (x_ad (gM h) 24)]) mi_X12_option vc_12 (lM_0 h) (x_at tdX12_readButton 115 rfl) wm_X12_365 rfl (Nat.le_of_ble_eq_true rfl) rfl H (fun r2 S2 H => ?_)
  refine x_iast (lM_24 h) (x_at tdX12_readButton 116 rfl) H.1 ?_
  have H := H.2
  refine x_aload_n (x_at tdX12_readButton 117 rfl) rfl rfl ?_
  refine gfM_0_40 (x_at tdX12_readButton 118 rfl) wf_X12_87 ?_
  refine x_iload_n (x_at tdX12_readButton 119 rfl) rfl rfl ?_
  refine x_iconst (x_at tdX12_readButton 120 rfl) k_c_m1 ?_
  refine x_iast (lM_25 h) (x_at tdX12_readButton 121 rfl) H.1 ?_
  have H := H.2
  refine x_aload_n (x_at tdX12_readButton 122 rfl) rfl rfl ?_
  refine gfM_0_2 (x_at tdX12_readButton 123 rfl) wf_X12_212 ?_
  refine x_top (v := (S2.1 0 2)) rfl ?_
  refine x_if_ne 282 (x_at tdX12_readButton 124 rfl) rfl (fun c => ?_) (fun c => ?_)
  · have H := H.1 c
    refine x_weak (lv' := [(0, .ref (x_ad (gM h) 0))]) ⟨rfl, trivial⟩ ?_
    exact H
  · have H := H.2 c
    refine x_aload_n (x_at tdX12_readButton 125 rfl) rfl rfl ?_
    refine x_ldc2 (x_at tdX12_readButton 126 rfl) wk_X12_241 ?_
    refine x_cVi (as := [.long 418330731890]) (rest := []) mi_X12_isWord vc_12 (lM_0 h) (x_at tdX12_readButton 127 rfl) wm_X12_263 rfl (Nat.le_of_ble_eq_true rfl) rfl H (fun r3 S3 H => ?_)
    refine x_if_eq 282 (x_at tdX12_readButton 128 rfl) rfl (fun c => ?_) (fun c => ?_)
    · have H := H.1 c
      refine x_weak (lv' := [(0, .ref (x_ad (gM h) 0))]) ⟨rfl, trivial⟩ ?_
      exact H
    · have H := H.2 c
      refine x_aload_n (x_at tdX12_readButton 129 rfl) rfl rfl ?_
      refine x_cVv (as := []) (rest := []) mi_X12_token vc_12 (lM_0 h) (x_at tdX12_readButton 130 rfl) wm_X12_270 rfl (Nat.le_of_ble_eq_true rfl) rfl H (fun S4 H => ?_)
      refine x_aload_n (x_at tdX12_readButton 131 rfl) rfl rfl ?_
      refine gfM_0_40 (x_at tdX12_readButton 132 rfl) wf_X12_87 ?_
      refine x_iload_n (x_at tdX12_readButton 133 rfl) rfl rfl ?_
      refine x_aload_n (x_at tdX12_readButton 134 rfl) rfl rfl ?_
      refine x_bipush (x_at tdX12_readButton 135 rfl) k_b_12 ?_
      refine x_aload_n (x_at tdX12_readButton 136 rfl) rfl rfl ?_
      refine gfM_0_51 (x_at tdX12_readButton 137 rfl) wf_X12_372 ?_
      refine x_cVi (as := [.int 12, .int (S4.1 0 51)]) (rest := [.int x1, .ref (x_ad (gM h) 25)]) mi_X12_oldName vc_12 (lM_0 h) (x_at tdX12_readButton 138 rfl) wm_X12_375 rfl (Nat.le_of_ble_eq_true rfl) rfl H (fun r5 S5 H => ?_)
      refine x_iast (lM_25 h) (x_at tdX12_readButton 139 rfl) H.1 ?_
      have H := H.2
      refine x_aload_n (x_at tdX12_readButton 140 rfl) rfl rfl ?_
      refine gfM_0_2 (x_at tdX12_readButton 141 rfl) wf_X12_212 ?_
      refine x_top (v := (S5.1 0 2)) rfl ?_
      refine x_if_ne 282 (x_at tdX12_readButton 142 rfl) rfl (fun c => ?_) (fun c => ?_)
      · have H := H.1 c
        refine x_weak (lv' := [(0, .ref (x_ad (gM h) 0))]) ⟨rfl, trivial⟩ ?_
        exact H
      · have H := H.2 c
        refine x_aload_n (x_at tdX12_readButton 143 rfl) rfl rfl ?_
        refine x_cVv (as := []) (rest := []) mi_X12_token vc_12 (lM_0 h) (x_at tdX12_readButton 144 rfl) wm_X12_270 rfl (Nat.le_of_ble_eq_true rfl) rfl H (fun S6 H => ?_)
        refine x_weak (lv' := [(0, .ref (x_ad (gM h) 0))]) ⟨rfl, trivial⟩ ?_
        exact H
theorem b_M_readButton_282 {h : xH} {d : Nat}   {S : xSt} {K : xSt → Prop}  (H : ((¬ (S.1 0 2) = 0 → K S) ∧ ((S.1 0 2) = 0 → K (x_putI S 0 51 ((S.1 0 51) + (1 : Int32)))))) : B_M_readButton_282 h d S K := by
  unfold B_M_readButton_282
  refine x_aload_n (x_at tdX12_readButton 145 rfl) rfl rfl ?_
  refine gfM_0_2 (x_at tdX12_readButton 146 rfl) wf_X12_212 ?_
  refine x_if_ne 299 (x_at tdX12_readButton 147 rfl) rfl (fun c => ?_) (fun c => ?_)
  · have H := H.1 c
    exact x_return rfl (x_at tdX12_readButton 154 rfl) ⟨rfl, H⟩
  · have H := H.2 c
    refine x_aload_n (x_at tdX12_readButton 148 rfl) rfl rfl ?_
    refine x_dup (x_at tdX12_readButton 149 rfl) rfl ?_
    refine gfM_0_51 (x_at tdX12_readButton 150 rfl) wf_X12_372 ?_
    refine x_iconst (x_at tdX12_readButton 151 rfl) k_c_1 ?_
    refine x_iadd (x_at tdX12_readButton 152 rfl) ?_
    refine pfM_0_51 (x_at tdX12_readButton 153 rfl) wf_X12_372 ?_
    exact x_return rfl (x_at tdX12_readButton 154 rfl) ⟨rfl, H⟩
theorem e_M_readDeed {h : xH} {d : Nat}  {S : xSt} {K : xSt → Prop}  (H : M_M_newName h (d + 1) 6 (S.1 0 50) S (fun (S1 : xSt) => M_M_told h d 448546566771 1 24 S1 (fun (r2 : Int32) (S2 : xSt) => (vp_in (S1.1 0 50) 6 ∧ ((¬ (S2.1 0 2) = 0 → K (x_putI S2 13 ((S1.1 0 50) : Int32).toNatClampNeg r2)) ∧ ((S2.1 0 2) = 0 → K (x_putI (x_putI S2 13 ((S1.1 0 50) : Int32).toNatClampNeg r2) 0 50 ((S2.1 0 50) + (1 : Int32))))))))) : M_M_readDeed h d S K := by
  refine x_enter pn_X12 (Nat.le_of_ble_eq_true rfl) ?_
  show X (gM h) _ _ 0 [(0, .ref (x_ad (gM h) 0))] [] S _
  refine x_aload_n (x_at tdX12_readDeed 0 rfl) rfl rfl ?_
  refine x_bipush (x_at tdX12_readDeed 1 rfl) k_b_6 ?_
  refine x_aload_n (x_at tdX12_readDeed 2 rfl) rfl rfl ?_
  refine gfM_0_50 (x_at tdX12_readDeed 3 rfl) wf_X12_369 ?_
  refine x_cVv (as := [.int 6, .int (S.1 0 50)]) (rest := []) mi_X12_newName vc_12 (lM_0 h) (x_at tdX12_readDeed 4 rfl) wm_X12_362 rfl (Nat.le_of_ble_eq_true rfl) rfl H (fun S1 H => ?_)
  refine x_aload_n (x_at tdX12_readDeed 5 rfl) rfl rfl ?_
  refine gfM_0_28 (x_at tdX12_readDeed 6 rfl) wf_X12_51 ?_
  refine x_aload_n (x_at tdX12_readDeed 7 rfl) rfl rfl ?_
  refine gfM_0_50 (x_at tdX12_readDeed 8 rfl) wf_X12_369 ?_
  refine x_aload_n (x_at tdX12_readDeed 9 rfl) rfl rfl ?_
  refine x_ldc2 (x_at tdX12_readDeed 10 rfl) wk_X12_225 ?_
  refine x_iconst (x_at tdX12_readDeed 11 rfl) k_c_1 ?_
  refine x_bipush (x_at tdX12_readDeed 12 rfl) k_b_24 ?_
  refine x_cVi (as := [.long 448546566771, .int 1, .int 24]) (rest := [.int (S1.1 0 50), .ref (x_ad (gM h) 13)]) mi_X12_told vc_12 (lM_0 h) (x_at tdX12_readDeed 13 rfl) wm_X12_281 rfl (Nat.le_of_ble_eq_true rfl) rfl H (fun r2 S2 H => ?_)
  refine x_iast (lM_13 h) (x_at tdX12_readDeed 14 rfl) H.1 ?_
  have H := H.2
  refine x_aload_n (x_at tdX12_readDeed 15 rfl) rfl rfl ?_
  refine gfM_0_2 (x_at tdX12_readDeed 16 rfl) wf_X12_212 ?_
  refine x_top (v := (S2.1 0 2)) rfl ?_
  refine x_if_ne 46 (x_at tdX12_readDeed 17 rfl) rfl (fun c => ?_) (fun c => ?_)
  · have H := H.1 c
    exact x_return rfl (x_at tdX12_readDeed 24 rfl) ⟨rfl, H⟩
  · have H := H.2 c
    refine x_aload_n (x_at tdX12_readDeed 18 rfl) rfl rfl ?_
    refine x_dup (x_at tdX12_readDeed 19 rfl) rfl ?_
    refine gfM_0_50 (x_at tdX12_readDeed 20 rfl) wf_X12_369 ?_
    refine x_top (v := (S2.1 0 50)) rfl ?_
    refine x_iconst (x_at tdX12_readDeed 21 rfl) k_c_1 ?_
    refine x_iadd (x_at tdX12_readDeed 22 rfl) ?_
    refine pfM_0_50 (x_at tdX12_readDeed 23 rfl) wf_X12_369 ?_
    exact x_return rfl (x_at tdX12_readDeed 24 rfl) ⟨rfl, H⟩
theorem e_M_readFriend {h : xH} {d : Nat}  {S : xSt} {K : xSt → Prop}  (H : M_M_token h (d + 1) S (fun (S1 : xSt) => M_M_oldName h d 0 (S1.1 0 49) S1 (fun (r2 : Int32) (S2 : xSt) => ((¬ (S2.1 0 2) = 0 → B_M_readFriend_25 h d r2 S2 K) ∧ ((S2.1 0 2) = 0 → M_M_token h (d + 1) S2 (fun (S3 : xSt) => B_M_readFriend_25 h d r2 S3 K)))))) : M_M_readFriend h d S K := by
  refine x_enter pn_X12 (Nat.le_of_ble_eq_true rfl) ?_
  show X (gM h) _ _ 0 [(0, .ref (x_ad (gM h) 0))] [] S _
  refine x_aload_n (x_at tdX12_readFriend 0 rfl) rfl rfl ?_
  refine x_cVv (as := []) (rest := []) mi_X12_token vc_12 (lM_0 h) (x_at tdX12_readFriend 1 rfl) wm_X12_270 rfl (Nat.le_of_ble_eq_true rfl) rfl H (fun S1 H => ?_)
  refine x_aload_n (x_at tdX12_readFriend 2 rfl) rfl rfl ?_
  refine x_iconst (x_at tdX12_readFriend 3 rfl) k_c_0 ?_
  refine x_aload_n (x_at tdX12_readFriend 4 rfl) rfl rfl ?_
  refine gfM_0_49 (x_at tdX12_readFriend 5 rfl) wf_X12_359 ?_
  refine x_cVi (as := [.int 0, .int (S1.1 0 49)]) (rest := []) mi_X12_oldName vc_12 (lM_0 h) (x_at tdX12_readFriend 6 rfl) wm_X12_375 rfl (Nat.le_of_ble_eq_true rfl) rfl H (fun r2 S2 H => ?_)
  refine x_istore_n (x_at tdX12_readFriend 7 rfl) rfl (by decide) ?_
  refine x_aload_n (x_at tdX12_readFriend 8 rfl) rfl rfl ?_
  refine gfM_0_2 (x_at tdX12_readFriend 9 rfl) wf_X12_212 ?_
  refine x_if_ne 25 (x_at tdX12_readFriend 10 rfl) rfl (fun c => ?_) (fun c => ?_)
  · have H := H.1 c
    refine x_weak (lv' := [(0, .ref (x_ad (gM h) 0)), (1, .int r2)]) ⟨rfl, rfl, trivial⟩ ?_
    exact H
  · have H := H.2 c
    refine x_aload_n (x_at tdX12_readFriend 11 rfl) rfl rfl ?_
    refine x_cVv (as := []) (rest := []) mi_X12_token vc_12 (lM_0 h) (x_at tdX12_readFriend 12 rfl) wm_X12_270 rfl (Nat.le_of_ble_eq_true rfl) rfl H (fun S3 H => ?_)
    refine x_weak (lv' := [(0, .ref (x_ad (gM h) 0)), (1, .int r2)]) ⟨rfl, rfl, trivial⟩ ?_
    exact H
theorem b_M_readFriend_25 {h : xH} {d : Nat}  {x1 : Int32} {S : xSt} {K : xSt → Prop}  (H : M_M_oldName h d 0 (S.1 0 49) S (fun (r1 : Int32) (S1 : xSt) => ((¬ (S1.1 0 2) = 0 → B_M_readFriend_68 h d x1 r1 S1 K) ∧ ((S1.1 0 2) = 0 → ((x1 = r1 → B_M_readFriend_63 h d x1 r1 S1 K) ∧ (¬ x1 = r1 → (vp_in (((6 : Int32) * x1) + r1) 36 ∧ (((S1.1 14 ((((6 : Int32) * x1) + r1) : Int32).toNatClampNeg) = (-100) → B_M_readFriend_68 h d x1 r1 S1 K) ∧ (¬ (S1.1 14 ((((6 : Int32) * x1) + r1) : Int32).toNatClampNeg) = (-100) → B_M_readFriend_63 h d x1 r1 S1 K))))))))) : B_M_readFriend_25 h d x1 S K := by
  unfold B_M_readFriend_25
  refine x_aload_n (x_at tdX12_readFriend 13 rfl) rfl rfl ?_
  refine x_iconst (x_at tdX12_readFriend 14 rfl) k_c_0 ?_
  refine x_aload_n (x_at tdX12_readFriend 15 rfl) rfl rfl ?_
  refine gfM_0_49 (x_at tdX12_readFriend 16 rfl) wf_X12_359 ?_
  refine x_cVi (as := [.int 0, .int (S.1 0 49)]) (rest := []) mi_X12_oldName vc_12 (lM_0 h) (x_at tdX12_readFriend 17 rfl) wm_X12_375 rfl (Nat.le_of_ble_eq_true rfl) rfl H (fun r1 S1 H => ?_)
  refine x_istore_n (x_at tdX12_readFriend 18 rfl) rfl (by decide) ?_
  refine x_aload_n (x_at tdX12_readFriend 19 rfl) rfl rfl ?_
  refine gfM_0_2 (x_at tdX12_readFriend 20 rfl) wf_X12_212 ?_
  refine x_if_ne 68 (x_at tdX12_readFriend 21 rfl) rfl (fun c => ?_) (fun c => ?_)
  · have H := H.1 c
    refine x_weak (lv' := [(0, .ref (x_ad (gM h) 0)), (1, .int x1), (2, .int r1)]) ⟨rfl, rfl, rfl, trivial⟩ ?_
    exact H
  · have H := H.2 c
    refine x_iload_n (x_at tdX12_readFriend 22 rfl) rfl rfl ?_
    refine x_iload_n (x_at tdX12_readFriend 23 rfl) rfl rfl ?_
    refine x_ic_eq 63 (x_at tdX12_readFriend 24 rfl) rfl (fun c => ?_) (fun c => ?_)
    · have H := H.1 c
      refine x_weak (lv' := [(0, .ref (x_ad (gM h) 0)), (1, .int x1), (2, .int r1)]) ⟨rfl, rfl, rfl, trivial⟩ ?_
      exact H
    · have H := H.2 c
      refine x_aload_n (x_at tdX12_readFriend 25 rfl) rfl rfl ?_
      refine gfM_0_29 (x_at tdX12_readFriend 26 rfl) wf_X12_54 ?_
      refine x_bipush (x_at tdX12_readFriend 27 rfl) k_b_6 ?_
      refine x_iload_n (x_at tdX12_readFriend 28 rfl) rfl rfl ?_
      refine x_imul (x_at tdX12_readFriend 29 rfl) ?_
      refine x_iload_n (x_at tdX12_readFriend 30 rfl) rfl rfl ?_
      refine x_iadd (x_at tdX12_readFriend 31 rfl) ?_
      refine x_iald (lM_14 h) (x_at tdX12_readFriend 32 rfl) H.1 ?_
      have H := H.2
      refine x_bipush (x_at tdX12_readFriend 33 rfl) k_b_m100 ?_
      refine x_ic_eq 68 (x_at tdX12_readFriend 34 rfl) rfl (fun c => ?_) (fun c => ?_)
      · have H := H.1 c
        refine x_weak (lv' := [(0, .ref (x_ad (gM h) 0)), (1, .int x1), (2, .int r1)]) ⟨rfl, rfl, rfl, trivial⟩ ?_
        exact H
      · have H := H.2 c
        refine x_weak (lv' := [(0, .ref (x_ad (gM h) 0)), (1, .int x1), (2, .int r1)]) ⟨rfl, rfl, rfl, trivial⟩ ?_
        exact H
theorem b_M_readFriend_63 {h : xH} {d : Nat}  {x1 : Int32} {x2 : Int32} {S : xSt} {K : xSt → Prop}  (H : M_M_wrong h (d + 2) 3 S (fun (S1 : xSt) => B_M_readFriend_68 h d x1 x2 S1 K)) : B_M_readFriend_63 h d x1 x2 S K := by
  unfold B_M_readFriend_63
  refine x_aload_n (x_at tdX12_readFriend 35 rfl) rfl rfl ?_
  refine x_iconst (x_at tdX12_readFriend 36 rfl) k_c_3 ?_
  refine x_cVv (as := [.int 3]) (rest := []) mi_X12_wrong vc_12 (lM_0 h) (x_at tdX12_readFriend 37 rfl) wm_X12_267 rfl (Nat.le_of_ble_eq_true rfl) rfl H (fun S1 H => ?_)
  refine x_weak (lv' := [(0, .ref (x_ad (gM h) 0)), (1, .int x1), (2, .int x2)]) ⟨rfl, rfl, rfl, trivial⟩ ?_
  exact H
theorem b_M_readFriend_68 {h : xH} {d : Nat}  {x1 : Int32} {x2 : Int32} {S : xSt} {K : xSt → Prop}  (H : ((¬ (S.1 0 2) = 0 → B_M_readFriend_79 h d x1 x2 S K) ∧ ((S.1 0 2) = 0 → M_M_token h (d + 1) S (fun (S1 : xSt) => B_M_readFriend_79 h d x1 x2 S1 K)))) : B_M_readFriend_68 h d x1 x2 S K := by
  unfold B_M_readFriend_68
  refine x_aload_n (x_at tdX12_readFriend 38 rfl) rfl rfl ?_
  refine gfM_0_2 (x_at tdX12_readFriend 39 rfl) wf_X12_212 ?_
  refine x_if_ne 79 (x_at tdX12_readFriend 40 rfl) rfl (fun c => ?_) (fun c => ?_)
  · have H := H.1 c
    refine x_weak (lv' := [(0, .ref (x_ad (gM h) 0)), (1, .int x1), (2, .int x2)]) ⟨rfl, rfl, rfl, trivial⟩ ?_
    exact H
  · have H := H.2 c
    refine x_aload_n (x_at tdX12_readFriend 41 rfl) rfl rfl ?_
    refine x_cVv (as := []) (rest := []) mi_X12_token vc_12 (lM_0 h) (x_at tdX12_readFriend 42 rfl) wm_X12_270 rfl (Nat.le_of_ble_eq_true rfl) rfl H (fun S1 H => ?_)
    refine x_weak (lv' := [(0, .ref (x_ad (gM h) 0)), (1, .int x1), (2, .int x2)]) ⟨rfl, rfl, rfl, trivial⟩ ?_
    exact H
theorem b_M_readFriend_79 {h : xH} {d : Nat}  {x1 : Int32} {x2 : Int32} {S : xSt} {K : xSt → Prop}  (H : (((S.1 0 2) ≤ 0 → ((¬ (S.1 0 6) = 45 → B_M_readFriend_106 h d x1 x2 (S.1 0 7) 0 S K) ∧ ((S.1 0 6) = 45 → B_M_readFriend_106 h d x1 x2 (S.1 0 7) 1 S K))) ∧ (¬ (S.1 0 2) ≤ 0 → K S))) : B_M_readFriend_79 h d x1 x2 S K := by
  unfold B_M_readFriend_79
  refine x_aload_n (x_at tdX12_readFriend 43 rfl) rfl rfl ?_
  refine gfM_0_2 (x_at tdX12_readFriend 44 rfl) wf_X12_212 ?_
  refine x_if_le 87 (x_at tdX12_readFriend 45 rfl) rfl (fun c => ?_) (fun c => ?_)
  · have H := H.1 c
    refine x_aload_n (x_at tdX12_readFriend 47 rfl) rfl rfl ?_
    refine gfM_0_7 (x_at tdX12_readFriend 48 rfl) wf_X12_189 ?_
    refine x_istore_n (x_at tdX12_readFriend 49 rfl) rfl (by decide) ?_
    refine x_aload_n (x_at tdX12_readFriend 50 rfl) rfl rfl ?_
    refine gfM_0_6 (x_at tdX12_readFriend 51 rfl) wf_X12_199 ?_
    refine x_bipush (x_at tdX12_readFriend 52 rfl) k_b_45 ?_
    refine x_ic_ne 105 (x_at tdX12_readFriend 53 rfl) rfl (fun c => ?_) (fun c => ?_)
    · have H := H.1 c
      refine x_iconst (x_at tdX12_readFriend 56 rfl) k_c_0 ?_
      refine x_weak (lv' := [(0, .ref (x_ad (gM h) 0)), (1, .int x1), (2, .int x2), (3, .int (S.1 0 7))]) ⟨rfl, rfl, rfl, rfl, trivial⟩ ?_
      exact H
    · have H := H.2 c
      refine x_iconst (x_at tdX12_readFriend 54 rfl) k_c_1 ?_
      refine x_goto 106 (x_at tdX12_readFriend 55 rfl) rfl ?_
      refine x_weak (lv' := [(0, .ref (x_ad (gM h) 0)), (1, .int x1), (2, .int x2), (3, .int (S.1 0 7))]) ⟨rfl, rfl, rfl, rfl, trivial⟩ ?_
      exact H
  · have H := H.2 c
    exact x_return rfl (x_at tdX12_readFriend 46 rfl) ⟨rfl, H⟩
theorem b_M_readFriend_106 {h : xH} {d : Nat}  {x1 : Int32} {x2 : Int32} {x3 : Int32} {s0 : Int32} {S : xSt} {K : xSt → Prop}  (H : ((s0 = 0 → B_M_readFriend_117 h d x1 x2 x3 s0 S K) ∧ (¬ s0 = 0 → M_M_token h (d + 1) S (fun (S1 : xSt) => B_M_readFriend_117 h d x1 x2 x3 s0 S1 K)))) : B_M_readFriend_106 h d x1 x2 x3 s0 S K := by
  unfold B_M_readFriend_106
  refine x_istore (x_at tdX12_readFriend 57 rfl) (by decide) ?_
  refine x_iload (x_at tdX12_readFriend 58 rfl) rfl ?_
  refine x_if_eq 117 (x_at tdX12_readFriend 59 rfl) rfl (fun c => ?_) (fun c => ?_)
  · have H := H.1 c
    refine x_weak (lv' := [(0, .ref (x_ad (gM h) 0)), (1, .int x1), (2, .int x2), (3, .int x3), (4, .int s0)]) ⟨rfl, rfl, rfl, rfl, rfl, trivial⟩ ?_
    exact H
  · have H := H.2 c
    refine x_aload_n (x_at tdX12_readFriend 60 rfl) rfl rfl ?_
    refine x_cVv (as := []) (rest := []) mi_X12_token vc_12 (lM_0 h) (x_at tdX12_readFriend 61 rfl) wm_X12_270 rfl (Nat.le_of_ble_eq_true rfl) rfl H (fun S1 H => ?_)
    refine x_weak (lv' := [(0, .ref (x_ad (gM h) 0)), (1, .int x1), (2, .int x2), (3, .int x3), (4, .int s0)]) ⟨rfl, rfl, rfl, rfl, rfl, trivial⟩ ?_
    exact H
theorem b_M_readFriend_117 {h : xH} {d : Nat}  {x1 : Int32} {x2 : Int32} {x3 : Int32} {x4 : Int32} {S : xSt} {K : xSt → Prop}  (H : M_M_toldNumber h d 0 9 S (fun (r1 : Int32) (S1 : xSt) => ((¬ (S1.1 0 2) = 4 → B_M_readFriend_144 h d x1 x2 x4 r1 S1 K) ∧ ((S1.1 0 2) = 4 → ((x4 = 0 → B_M_readFriend_144 h d x1 x2 x4 r1 S1 K) ∧ (¬ x4 = 0 → B_M_readFriend_144 h d x1 x2 x4 r1 (x_putI S1 0 3 x3) K)))))) : B_M_readFriend_117 h d x1 x2 x3 x4 S K := by
  unfold B_M_readFriend_117
  refine x_aload_n (x_at tdX12_readFriend 62 rfl) rfl rfl ?_
  refine x_iconst (x_at tdX12_readFriend 63 rfl) k_c_0 ?_
  refine x_bipush (x_at tdX12_readFriend 64 rfl) k_b_9 ?_
  refine x_cVi (as := [.int 0, .int 9]) (rest := []) mi_X12_toldNumber vc_12 (lM_0 h) (x_at tdX12_readFriend 65 rfl) wm_X12_277 rfl (Nat.le_of_ble_eq_true rfl) rfl H (fun r1 S1 H => ?_)
  refine x_istore (x_at tdX12_readFriend 66 rfl) (by decide) ?_
  refine x_aload_n (x_at tdX12_readFriend 67 rfl) rfl rfl ?_
  refine gfM_0_2 (x_at tdX12_readFriend 68 rfl) wf_X12_212 ?_
  refine x_iconst (x_at tdX12_readFriend 69 rfl) k_c_4 ?_
  refine x_ic_ne 144 (x_at tdX12_readFriend 70 rfl) rfl (fun c => ?_) (fun c => ?_)
  · have H := H.1 c
    refine x_weak (lv' := [(0, .ref (x_ad (gM h) 0)), (1, .int x1), (2, .int x2), (4, .int x4), (5, .int r1)]) ⟨rfl, rfl, rfl, rfl, rfl, trivial⟩ ?_
    exact H
  · have H := H.2 c
    refine x_iload (x_at tdX12_readFriend 71 rfl) rfl ?_
    refine x_if_eq 144 (x_at tdX12_readFriend 72 rfl) rfl (fun c => ?_) (fun c => ?_)
    · have H := H.1 c
      refine x_weak (lv' := [(0, .ref (x_ad (gM h) 0)), (1, .int x1), (2, .int x2), (4, .int x4), (5, .int r1)]) ⟨rfl, rfl, rfl, rfl, rfl, trivial⟩ ?_
      exact H
    · have H := H.2 c
      refine x_aload_n (x_at tdX12_readFriend 73 rfl) rfl rfl ?_
      refine x_iload_n (x_at tdX12_readFriend 74 rfl) rfl rfl ?_
      refine pfM_0_3 (x_at tdX12_readFriend 75 rfl) wf_X12_13 ?_
      refine x_weak (lv' := [(0, .ref (x_ad (gM h) 0)), (1, .int x1), (2, .int x2), (4, .int x4), (5, .int r1)]) ⟨rfl, rfl, rfl, rfl, rfl, trivial⟩ ?_
      exact H
theorem b_M_readFriend_144 {h : xH} {d : Nat}  {x1 : Int32} {x2 : Int32} {x4 : Int32} {x5 : Int32} {S : xSt} {K : xSt → Prop}  (H : (((S.1 0 2) ≤ 0 → ((x4 = 0 → B_M_readFriend_175 h d x1 x2 x4 x5 x5 (((6 : Int32) * x1) + x2) S K) ∧ (¬ x4 = 0 → B_M_readFriend_175 h d x1 x2 x4 x5 (-x5) (((6 : Int32) * x1) + x2) S K))) ∧ (¬ (S.1 0 2) ≤ 0 → K S))) : B_M_readFriend_144 h d x1 x2 x4 x5 S K := by
  unfold B_M_readFriend_144
  refine x_aload_n (x_at tdX12_readFriend 76 rfl) rfl rfl ?_
  refine gfM_0_2 (x_at tdX12_readFriend 77 rfl) wf_X12_212 ?_
  refine x_if_le 152 (x_at tdX12_readFriend 78 rfl) rfl (fun c => ?_) (fun c => ?_)
  · have H := H.1 c
    refine x_aload_n (x_at tdX12_readFriend 80 rfl) rfl rfl ?_
    refine gfM_0_29 (x_at tdX12_readFriend 81 rfl) wf_X12_54 ?_
    refine x_bipush (x_at tdX12_readFriend 82 rfl) k_b_6 ?_
    refine x_iload_n (x_at tdX12_readFriend 83 rfl) rfl rfl ?_
    refine x_imul (x_at tdX12_readFriend 84 rfl) ?_
    refine x_iload_n (x_at tdX12_readFriend 85 rfl) rfl rfl ?_
    refine x_iadd (x_at tdX12_readFriend 86 rfl) ?_
    refine x_iload (x_at tdX12_readFriend 87 rfl) rfl ?_
    refine x_if_eq 173 (x_at tdX12_readFriend 88 rfl) rfl (fun c => ?_) (fun c => ?_)
    · have H := H.1 c
      refine x_iload (x_at tdX12_readFriend 92 rfl) rfl ?_
      refine x_weak (lv' := [(0, .ref (x_ad (gM h) 0)), (1, .int x1), (2, .int x2), (4, .int x4), (5, .int x5)]) ⟨rfl, rfl, rfl, rfl, rfl, trivial⟩ ?_
      exact H
    · have H := H.2 c
      refine x_iload (x_at tdX12_readFriend 89 rfl) rfl ?_
      refine x_ineg (x_at tdX12_readFriend 90 rfl) ?_
      refine x_goto 175 (x_at tdX12_readFriend 91 rfl) rfl ?_
      refine x_weak (lv' := [(0, .ref (x_ad (gM h) 0)), (1, .int x1), (2, .int x2), (4, .int x4), (5, .int x5)]) ⟨rfl, rfl, rfl, rfl, rfl, trivial⟩ ?_
      exact H
  · have H := H.2 c
    exact x_return rfl (x_at tdX12_readFriend 79 rfl) ⟨rfl, H⟩
theorem b_M_readFriend_175 {h : xH} {d : Nat}  {x1 : Int32} {x2 : Int32} {x4 : Int32} {x5 : Int32} {s0 : Int32} {s1 : Int32} {S : xSt} {K : xSt → Prop}  (H : (vp_in s1 36 ∧ ((x4 = 0 → B_M_readFriend_199 h d x5 (((6 : Int32) * x2) + x1) (x_putI S 14 (s1 : Int32).toNatClampNeg s0) K) ∧ (¬ x4 = 0 → B_M_readFriend_199 h d (-x5) (((6 : Int32) * x2) + x1) (x_putI S 14 (s1 : Int32).toNatClampNeg s0) K)))) : B_M_readFriend_175 h d x1 x2 x4 x5 s0 s1 S K := by
  unfold B_M_readFriend_175
  refine x_iast (lM_14 h) (x_at tdX12_readFriend 93 rfl) H.1 ?_
  have H := H.2
  refine x_aload_n (x_at tdX12_readFriend 94 rfl) rfl rfl ?_
  refine gfM_0_29 (x_at tdX12_readFriend 95 rfl) wf_X12_54 ?_
  refine x_bipush (x_at tdX12_readFriend 96 rfl) k_b_6 ?_
  refine x_iload_n (x_at tdX12_readFriend 97 rfl) rfl rfl ?_
  refine x_imul (x_at tdX12_readFriend 98 rfl) ?_
  refine x_iload_n (x_at tdX12_readFriend 99 rfl) rfl rfl ?_
  refine x_iadd (x_at tdX12_readFriend 100 rfl) ?_
  refine x_iload (x_at tdX12_readFriend 101 rfl) rfl ?_
  refine x_if_eq 197 (x_at tdX12_readFriend 102 rfl) rfl (fun c => ?_) (fun c => ?_)
  · have H := H.1 c
    refine x_iload (x_at tdX12_readFriend 106 rfl) rfl ?_
    refine x_weak (lv' := [(0, .ref (x_ad (gM h) 0))]) ⟨rfl, trivial⟩ ?_
    exact H
  · have H := H.2 c
    refine x_iload (x_at tdX12_readFriend 103 rfl) rfl ?_
    refine x_ineg (x_at tdX12_readFriend 104 rfl) ?_
    refine x_goto 199 (x_at tdX12_readFriend 105 rfl) rfl ?_
    refine x_weak (lv' := [(0, .ref (x_ad (gM h) 0))]) ⟨rfl, trivial⟩ ?_
    exact H
theorem b_M_readFriend_199 {h : xH} {d : Nat}  {s0 : Int32} {s1 : Int32} {S : xSt} {K : xSt → Prop}  (H : (vp_in s1 36 ∧ K (x_putI (x_putI S 14 (s1 : Int32).toNatClampNeg s0) 0 52 ((S.1 0 52) + (1 : Int32))))) : B_M_readFriend_199 h d s0 s1 S K := by
  unfold B_M_readFriend_199
  refine x_iast (lM_14 h) (x_at tdX12_readFriend 107 rfl) H.1 ?_
  have H := H.2
  refine x_aload_n (x_at tdX12_readFriend 108 rfl) rfl rfl ?_
  refine x_dup (x_at tdX12_readFriend 109 rfl) rfl ?_
  refine gfM_0_52 (x_at tdX12_readFriend 110 rfl) wf_X12_378 ?_
  refine x_top (v := (S.1 0 52)) rfl ?_
  refine x_iconst (x_at tdX12_readFriend 111 rfl) k_c_1 ?_
  refine x_iadd (x_at tdX12_readFriend 112 rfl) ?_
  refine pfM_0_52 (x_at tdX12_readFriend 113 rfl) wf_X12_378 ?_
  exact x_return rfl (x_at tdX12_readFriend 114 rfl) ⟨rfl, H⟩
theorem e_M_truth {h : xH} {d : Nat} {x0 : Int32} {S : xSt} {K : Int32 → xSt → Prop}  (H : ((x0 = 0 → K 0 S) ∧ (¬ x0 = 0 → K 1 S))) : M_M_truth h d x0 S K := by
  refine x_enter pn_X12 (Nat.le_of_ble_eq_true rfl) ?_
  show X (gM h) _ _ 0 [(0, .int x0)] [] S _
  refine x_iload_n (x_at tdX12_truth 0 rfl) rfl rfl ?_
  refine x_if_eq 8 (x_at tdX12_truth 1 rfl) rfl (fun c => ?_) (fun c => ?_)
  · have H := H.1 c
    refine x_iconst (x_at tdX12_truth 4 rfl) k_c_0 ?_
    exact x_ireturn (ty := .int) rfl rfl (x_at tdX12_truth 5 rfl) ⟨_, rfl, H⟩
  · have H := H.2 c
    refine x_iconst (x_at tdX12_truth 2 rfl) k_c_1 ?_
    refine x_goto 9 (x_at tdX12_truth 3 rfl) rfl ?_
    exact x_ireturn (ty := .int) rfl rfl (x_at tdX12_truth 5 rfl) ⟨_, rfl, H⟩
theorem e_M_readMan {h : xH} {d : Nat}  {S : xSt} {K : xSt → Prop}  (H : M_M_newName h (d + 2) 0 (S.1 0 49) S (fun (S1 : xSt) => M_M_option h d 109330211763570 0 9 0 S1 (fun (r2 : Int32) (S2 : xSt) => (vp_in (S1.1 0 49) 6 ∧ M_M_option h d 448545973619 1 4 2 (x_putI S2 10 ((S1.1 0 49) : Int32).toNatClampNeg r2) (fun (r3 : Int32) (S3 : xSt) => (vp_in (S1.1 0 49) 6 ∧ ((¬ (S3.1 0 2) = 0 → B_M_readMan_73 h d (S1.1 0 49) (S1.1 0 49) (x_putI S3 11 ((S1.1 0 49) : Int32).toNatClampNeg r3) K) ∧ ((S3.1 0 2) = 0 → M_M_isWord h (d + 4) 1818584692 (x_putI S3 11 ((S1.1 0 49) : Int32).toNatClampNeg r3) (fun (r4 : Int32) (S4 : xSt) => ((r4 = 0 → B_M_readMan_73 h d (S1.1 0 49) (S1.1 0 49) S4 K) ∧ (¬ r4 = 0 → B_M_readMan_74 h d (S1.1 0 49) 1 (S1.1 0 49) S4 K))))))))))) : M_M_readMan h d S K := by
  refine x_enter pn_X12 (Nat.le_of_ble_eq_true rfl) ?_
  show X (gM h) _ _ 0 [(0, .ref (x_ad (gM h) 0))] [] S _
  refine x_aload_n (x_at tdX12_readMan 0 rfl) rfl rfl ?_
  refine x_iconst (x_at tdX12_readMan 1 rfl) k_c_0 ?_
  refine x_aload_n (x_at tdX12_readMan 2 rfl) rfl rfl ?_
  refine gfM_0_49 (x_at tdX12_readMan 3 rfl) wf_X12_359 ?_
  refine x_cVv (as := [.int 0, .int (S.1 0 49)]) (rest := []) mi_X12_newName vc_12 (lM_0 h) (x_at tdX12_readMan 4 rfl) wm_X12_362 rfl (Nat.le_of_ble_eq_true rfl) rfl H (fun S1 H => ?_)
  refine x_aload_n (x_at tdX12_readMan 5 rfl) rfl rfl ?_
  refine gfM_0_49 (x_at tdX12_readMan 6 rfl) wf_X12_359 ?_
  refine x_istore_n (x_at tdX12_readMan 7 rfl) rfl (by decide) ?_
  refine x_aload_n (x_at tdX12_readMan 8 rfl) rfl rfl ?_
  refine gfM_0_25 (x_at tdX12_readMan 9 rfl) wf_X12_42 ?_
  refine x_iload_n (x_at tdX12_readMan 10 rfl) rfl rfl ?_
  refine x_aload_n (x_at tdX12_readMan 11 rfl) rfl rfl ?_
  refine x_ldc2 (x_at tdX12_readMan 12 rfl) wk_X12_217 ?_
  refine x_iconst (x_at tdX12_readMan 13 rfl) k_c_0 ?_
  refine x_bipush (x_at tdX12_readMan 14 rfl) k_b_9 ?_
  refine x_iconst (x_at tdX12_readMan 15 rfl) k_c_0 ?_
  refine x_cVi (as := [.long 109330211763570, .int 0, .int 9, .int 0]) (rest := [.int (S1.1 0 49), .ref (x_ad (gM h) 10)]) mi_X12_option vc_12 (lM_0 h) (x_at tdX12_readMan 16 rfl) wm_X12_365 rfl (Nat.le_of_ble_eq_true rfl) rfl H (fun r2 S2 H => ?_)
  refine x_iast (lM_10 h) (x_at tdX12_readMan 17 rfl) H.1 ?_
  have H := H.2
  refine x_aload_n (x_at tdX12_readMan 18 rfl) rfl rfl ?_
  refine gfM_0_26 (x_at tdX12_readMan 19 rfl) wf_X12_45 ?_
  refine x_iload_n (x_at tdX12_readMan 20 rfl) rfl rfl ?_
  refine x_aload_n (x_at tdX12_readMan 21 rfl) rfl rfl ?_
  refine x_ldc2 (x_at tdX12_readMan 22 rfl) wk_X12_219 ?_
  refine x_iconst (x_at tdX12_readMan 23 rfl) k_c_1 ?_
  refine x_iconst (x_at tdX12_readMan 24 rfl) k_c_4 ?_
  refine x_iconst (x_at tdX12_readMan 25 rfl) k_c_2 ?_
  refine x_cVi (as := [.long 448545973619, .int 1, .int 4, .int 2]) (rest := [.int (S1.1 0 49), .ref (x_ad (gM h) 11)]) mi_X12_option vc_12 (lM_0 h) (x_at tdX12_readMan 26 rfl) wm_X12_365 rfl (Nat.le_of_ble_eq_true rfl) rfl H (fun r3 S3 H => ?_)
  refine x_iast (lM_11 h) (x_at tdX12_readMan 27 rfl) H.1 ?_
  have H := H.2
  refine x_aload_n (x_at tdX12_readMan 28 rfl) rfl rfl ?_
  refine gfM_0_27 (x_at tdX12_readMan 29 rfl) wf_X12_48 ?_
  refine x_iload_n (x_at tdX12_readMan 30 rfl) rfl rfl ?_
  refine x_aload_n (x_at tdX12_readMan 31 rfl) rfl rfl ?_
  refine gfM_0_2 (x_at tdX12_readMan 32 rfl) wf_X12_212 ?_
  refine x_top (v := (S3.1 0 2)) rfl ?_
  refine x_if_ne 73 (x_at tdX12_readMan 33 rfl) rfl (fun c => ?_) (fun c => ?_)
  · have H := H.1 c
    refine x_weak (lv' := [(0, .ref (x_ad (gM h) 0)), (1, .int (S1.1 0 49))]) ⟨rfl, rfl, trivial⟩ ?_
    exact H
  · have H := H.2 c
    refine x_aload_n (x_at tdX12_readMan 34 rfl) rfl rfl ?_
    refine x_ldc2 (x_at tdX12_readMan 35 rfl) wk_X12_221 ?_
    refine x_cVi (as := [.long 1818584692]) (rest := [.int (S1.1 0 49), .ref (x_ad (gM h) 12)]) mi_X12_isWord vc_12 (lM_0 h) (x_at tdX12_readMan 36 rfl) wm_X12_263 rfl (Nat.le_of_ble_eq_true rfl) rfl H (fun r4 S4 H => ?_)
    refine x_if_eq 73 (x_at tdX12_readMan 37 rfl) rfl (fun c => ?_) (fun c => ?_)
    · have H := H.1 c
      refine x_weak (lv' := [(0, .ref (x_ad (gM h) 0)), (1, .int (S1.1 0 49))]) ⟨rfl, rfl, trivial⟩ ?_
      exact H
    · have H := H.2 c
      refine x_iconst (x_at tdX12_readMan 38 rfl) k_c_1 ?_
      refine x_goto 74 (x_at tdX12_readMan 39 rfl) rfl ?_
      refine x_weak (lv' := [(0, .ref (x_ad (gM h) 0)), (1, .int (S1.1 0 49))]) ⟨rfl, rfl, trivial⟩ ?_
      exact H
theorem b_M_readMan_73 {h : xH} {d : Nat}  {x1 : Int32} {s0 : Int32} {S : xSt} {K : xSt → Prop}  (H : B_M_readMan_74 h d x1 0 s0 S K) : B_M_readMan_73 h d x1 s0 S K := by
  unfold B_M_readMan_73
  refine x_iconst (x_at tdX12_readMan 40 rfl) k_c_0 ?_
  refine x_weak (lv' := [(0, .ref (x_ad (gM h) 0)), (1, .int x1)]) ⟨rfl, rfl, trivial⟩ ?_
  exact H
theorem b_M_readMan_74 {h : xH} {d : Nat}  {x1 : Int32} {s0 : Int32} {s1 : Int32} {S : xSt} {K : xSt → Prop}  (H : M_M_truth h (d + 4) s0 S (fun (r1 : Int32) (S1 : xSt) => (vp_in s1 6 ∧ ((¬ (S1.1 0 2) = 0 → B_M_readMan_99 h d x1 (x_putI S1 12 (s1 : Int32).toNatClampNeg r1) K) ∧ ((S1.1 0 2) = 0 → M_M_isWord h (d + 4) 1818584692 (x_putI S1 12 (s1 : Int32).toNatClampNeg r1) (fun (r2 : Int32) (S2 : xSt) => ((r2 = 0 → B_M_readMan_99 h d x1 S2 K) ∧ (¬ r2 = 0 → M_M_token h (d + 3) S2 (fun (S3 : xSt) => B_M_readMan_99 h d x1 S3 K))))))))) : B_M_readMan_74 h d x1 s0 s1 S K := by
  unfold B_M_readMan_74
  refine x_cSi (as := [.int s0]) (rest := [.int s1, .ref (x_ad (gM h) 12)]) mi_X12_truth (x_at tdX12_readMan 41 rfl) wm_X12_344 rfl (Nat.le_of_ble_eq_true rfl) rfl H (fun r1 S1 H => ?_)
  refine x_iast (lM_12 h) (x_at tdX12_readMan 42 rfl) H.1 ?_
  have H := H.2
  refine x_aload_n (x_at tdX12_readMan 43 rfl) rfl rfl ?_
  refine gfM_0_2 (x_at tdX12_readMan 44 rfl) wf_X12_212 ?_
  refine x_top (v := (S1.1 0 2)) rfl ?_
  refine x_if_ne 99 (x_at tdX12_readMan 45 rfl) rfl (fun c => ?_) (fun c => ?_)
  · have H := H.1 c
    refine x_weak (lv' := [(0, .ref (x_ad (gM h) 0)), (1, .int x1)]) ⟨rfl, rfl, trivial⟩ ?_
    exact H
  · have H := H.2 c
    refine x_aload_n (x_at tdX12_readMan 46 rfl) rfl rfl ?_
    refine x_ldc2 (x_at tdX12_readMan 47 rfl) wk_X12_221 ?_
    refine x_cVi (as := [.long 1818584692]) (rest := []) mi_X12_isWord vc_12 (lM_0 h) (x_at tdX12_readMan 48 rfl) wm_X12_263 rfl (Nat.le_of_ble_eq_true rfl) rfl H (fun r2 S2 H => ?_)
    refine x_if_eq 99 (x_at tdX12_readMan 49 rfl) rfl (fun c => ?_) (fun c => ?_)
    · have H := H.1 c
      refine x_weak (lv' := [(0, .ref (x_ad (gM h) 0)), (1, .int x1)]) ⟨rfl, rfl, trivial⟩ ?_
      exact H
    · have H := H.2 c
      refine x_aload_n (x_at tdX12_readMan 50 rfl) rfl rfl ?_
      refine x_cVv (as := []) (rest := []) mi_X12_token vc_12 (lM_0 h) (x_at tdX12_readMan 51 rfl) wm_X12_270 rfl (Nat.le_of_ble_eq_true rfl) rfl H (fun S3 H => ?_)
      refine x_weak (lv' := [(0, .ref (x_ad (gM h) 0)), (1, .int x1)]) ⟨rfl, rfl, trivial⟩ ?_
      exact H
theorem b_M_readMan_99 {h : xH} {d : Nat}  {x1 : Int32} {S : xSt} {K : xSt → Prop}  (H : B_M_readMan_101 h d x1 0 S K) : B_M_readMan_99 h d x1 S K := by
  unfold B_M_readMan_99
  refine x_iconst (x_at tdX12_readMan 52 rfl) k_c_0 ?_
  refine x_istore_n (x_at tdX12_readMan 53 rfl) rfl (by decide) ?_
  refine x_weak (lv' := [(0, .ref (x_ad (gM h) 0)), (1, .int x1), (2, .int 0)]) ⟨rfl, rfl, rfl, trivial⟩ ?_
  exact H
theorem b_M_readMan_101 {h : xH} {d : Nat}  {x1 : Int32} {x2 : Int32} {S : xSt} {K : xSt → Prop}  (H : ((6 ≤ x2 → ((¬ (S.1 0 2) = 0 → K S) ∧ ((S.1 0 2) = 0 → K (x_putI S 0 49 ((S.1 0 49) + (1 : Int32)))))) ∧ (¬ 6 ≤ x2 → (vp_in (((6 : Int32) * x1) + x2) 36 ∧ (vp_in (((6 : Int32) * x2) + x1) 36 ∧ B_M_readMan_101 h d x1 (x2 + 1) (x_putI (x_putI S 14 ((((6 : Int32) * x1) + x2) : Int32).toNatClampNeg (-100)) 14 ((((6 : Int32) * x2) + x1) : Int32).toNatClampNeg (-100)) K))))) : B_M_readMan_101 h d x1 x2 S K := by
  unfold B_M_readMan_101
  refine x_iload_n (x_at tdX12_readMan 54 rfl) rfl rfl ?_
  refine x_bipush (x_at tdX12_readMan 55 rfl) k_b_6 ?_
  refine x_ic_ge 139 (x_at tdX12_readMan 56 rfl) rfl (fun c => ?_) (fun c => ?_)
  · have H := H.1 c
    refine x_aload_n (x_at tdX12_readMan 77 rfl) rfl rfl ?_
    refine gfM_0_2 (x_at tdX12_readMan 78 rfl) wf_X12_212 ?_
    refine x_if_ne 156 (x_at tdX12_readMan 79 rfl) rfl (fun c => ?_) (fun c => ?_)
    · have H := H.1 c
      exact x_return rfl (x_at tdX12_readMan 86 rfl) ⟨rfl, H⟩
    · have H := H.2 c
      refine x_aload_n (x_at tdX12_readMan 80 rfl) rfl rfl ?_
      refine x_dup (x_at tdX12_readMan 81 rfl) rfl ?_
      refine gfM_0_49 (x_at tdX12_readMan 82 rfl) wf_X12_359 ?_
      refine x_iconst (x_at tdX12_readMan 83 rfl) k_c_1 ?_
      refine x_iadd (x_at tdX12_readMan 84 rfl) ?_
      refine pfM_0_49 (x_at tdX12_readMan 85 rfl) wf_X12_359 ?_
      exact x_return rfl (x_at tdX12_readMan 86 rfl) ⟨rfl, H⟩
  · have H := H.2 c
    refine x_aload_n (x_at tdX12_readMan 57 rfl) rfl rfl ?_
    refine gfM_0_29 (x_at tdX12_readMan 58 rfl) wf_X12_54 ?_
    refine x_bipush (x_at tdX12_readMan 59 rfl) k_b_6 ?_
    refine x_iload_n (x_at tdX12_readMan 60 rfl) rfl rfl ?_
    refine x_imul (x_at tdX12_readMan 61 rfl) ?_
    refine x_iload_n (x_at tdX12_readMan 62 rfl) rfl rfl ?_
    refine x_iadd (x_at tdX12_readMan 63 rfl) ?_
    refine x_bipush (x_at tdX12_readMan 64 rfl) k_b_m100 ?_
    refine x_iast (lM_14 h) (x_at tdX12_readMan 65 rfl) H.1 ?_
    have H := H.2
    refine x_aload_n (x_at tdX12_readMan 66 rfl) rfl rfl ?_
    refine gfM_0_29 (x_at tdX12_readMan 67 rfl) wf_X12_54 ?_
    refine x_bipush (x_at tdX12_readMan 68 rfl) k_b_6 ?_
    refine x_iload_n (x_at tdX12_readMan 69 rfl) rfl rfl ?_
    refine x_imul (x_at tdX12_readMan 70 rfl) ?_
    refine x_iload_n (x_at tdX12_readMan 71 rfl) rfl rfl ?_
    refine x_iadd (x_at tdX12_readMan 72 rfl) ?_
    refine x_bipush (x_at tdX12_readMan 73 rfl) k_b_m100 ?_
    refine x_iast (lM_14 h) (x_at tdX12_readMan 74 rfl) H.1 ?_
    have H := H.2
    refine x_iinc (x_at tdX12_readMan 75 rfl) rfl (k_inc_1 _) (by decide) ?_
    refine x_goto 101 (x_at tdX12_readMan 76 rfl) rfl ?_
    refine x_weak (lv' := [(0, .ref (x_ad (gM h) 0)), (1, .int x1), (2, .int (x2 + 1))]) ⟨rfl, rfl, rfl, trivial⟩ ?_
    exact H
theorem e_M_add {h : xH} {d : Nat} {x1 : Int32} {x2 : Int32} {S : xSt} {K : xSt → Prop}  (H : (vp_in (S.1 0 17) 320 ∧ (vp_in (S.1 0 17) 320 ∧ K (x_putI (x_putI (x_putI S 3 ((S.1 0 17) : Int32).toNatClampNeg x1) 4 ((S.1 0 17) : Int32).toNatClampNeg x2) 0 17 ((S.1 0 17) + (1 : Int32)))))) : M_M_add h d x1 x2 S K := by
  refine x_enter pn_X12 (Nat.le_of_ble_eq_true rfl) ?_
  show X (gM h) _ _ 0 [(0, .ref (x_ad (gM h) 0)), (1, .int x1), (2, .int x2)] [] S _
  refine x_aload_n (x_at tdX12_add 0 rfl) rfl rfl ?_
  refine gfM_0_11 (x_at tdX12_add 1 rfl) wf_X12_21 ?_
  refine x_aload_n (x_at tdX12_add 2 rfl) rfl rfl ?_
  refine gfM_0_17 (x_at tdX12_add 3 rfl) wf_X12_291 ?_
  refine x_iload_n (x_at tdX12_add 4 rfl) rfl rfl ?_
  refine x_iast (lM_3 h) (x_at tdX12_add 5 rfl) H.1 ?_
  have H := H.2
  refine x_aload_n (x_at tdX12_add 6 rfl) rfl rfl ?_
  refine gfM_0_12 (x_at tdX12_add 7 rfl) wf_X12_24 ?_
  refine x_aload_n (x_at tdX12_add 8 rfl) rfl rfl ?_
  refine gfM_0_17 (x_at tdX12_add 9 rfl) wf_X12_291 ?_
  refine x_top (v := (S.1 0 17)) rfl ?_
  refine x_iload_n (x_at tdX12_add 10 rfl) rfl rfl ?_
  refine x_iast (lM_4 h) (x_at tdX12_add 11 rfl) H.1 ?_
  have H := H.2
  refine x_aload_n (x_at tdX12_add 12 rfl) rfl rfl ?_
  refine x_dup (x_at tdX12_add 13 rfl) rfl ?_
  refine gfM_0_17 (x_at tdX12_add 14 rfl) wf_X12_291 ?_
  refine x_top (v := (S.1 0 17)) rfl ?_
  refine x_iconst (x_at tdX12_add 15 rfl) k_c_1 ?_
  refine x_iadd (x_at tdX12_add 16 rfl) ?_
  refine pfM_0_17 (x_at tdX12_add 17 rfl) wf_X12_291 ?_
  exact x_return rfl (x_at tdX12_add 18 rfl) ⟨rfl, H⟩
theorem e_M_tight {h : xH} {d : Nat} {x0 : Int32} {S : xSt} {K : Int32 → xSt → Prop}  (H : ((x0 = 21 → K 3 S) ∧ (x0 = 38 → K 2 S) ∧ (x0 = 43 → K 5 S) ∧ (x0 = 45 → K 5 S) ∧ (x0 = 60 → K 4 S) ∧ (x0 = 61 → K 4 S) ∧ (x0 = 62 → K 4 S) ∧ (x0 = 124 → K 1 S) ∧ (¬ x0 = 21 → ¬ x0 = 38 → ¬ x0 = 43 → ¬ x0 = 45 → ¬ x0 = 60 → ¬ x0 = 61 → ¬ x0 = 62 → ¬ x0 = 124 → K 6 S))) : M_M_tight h d x0 S K := by
  refine x_enter pn_X12 (Nat.le_of_ble_eq_true rfl) ?_
  show X (gM h) _ _ 0 [(0, .int x0)] [] S _
  refine x_iload_n (x_at tdX12_tight 0 rfl) rfl rfl ?_
  by_cases hx0 : x0 = 21
  · refine x_lsw (off := 79) 80 (x_at tdX12_tight 1 rfl) (by decide) hx0 (by decide) rfl ?_
    have H := H.1 hx0
    refine x_iconst (x_at tdX12_tight 6 rfl) k_c_3 ?_
    exact x_ireturn (ty := .int) rfl rfl (x_at tdX12_tight 7 rfl) ⟨_, rfl, H⟩
  by_cases hx1 : x0 = 38
  · refine x_lsw (off := 77) 78 (x_at tdX12_tight 1 rfl) (by decide) hx1 (by decide) rfl ?_
    have H := H.2.1 hx1
    refine x_iconst (x_at tdX12_tight 4 rfl) k_c_2 ?_
    exact x_ireturn (ty := .int) rfl rfl (x_at tdX12_tight 5 rfl) ⟨_, rfl, H⟩
  by_cases hx2 : x0 = 43
  · refine x_lsw (off := 83) 84 (x_at tdX12_tight 1 rfl) (by decide) hx2 (by decide) rfl ?_
    have H := H.2.2.1 hx2
    refine x_iconst (x_at tdX12_tight 10 rfl) k_c_5 ?_
    exact x_ireturn (ty := .int) rfl rfl (x_at tdX12_tight 11 rfl) ⟨_, rfl, H⟩
  by_cases hx3 : x0 = 45
  · refine x_lsw (off := 83) 84 (x_at tdX12_tight 1 rfl) (by decide) hx3 (by decide) rfl ?_
    have H := H.2.2.2.1 hx3
    refine x_iconst (x_at tdX12_tight 10 rfl) k_c_5 ?_
    exact x_ireturn (ty := .int) rfl rfl (x_at tdX12_tight 11 rfl) ⟨_, rfl, H⟩
  by_cases hx4 : x0 = 60
  · refine x_lsw (off := 81) 82 (x_at tdX12_tight 1 rfl) (by decide) hx4 (by decide) rfl ?_
    have H := H.2.2.2.2.1 hx4
    refine x_iconst (x_at tdX12_tight 8 rfl) k_c_4 ?_
    exact x_ireturn (ty := .int) rfl rfl (x_at tdX12_tight 9 rfl) ⟨_, rfl, H⟩
  by_cases hx5 : x0 = 61
  · refine x_lsw (off := 81) 82 (x_at tdX12_tight 1 rfl) (by decide) hx5 (by decide) rfl ?_
    have H := H.2.2.2.2.2.1 hx5
    refine x_iconst (x_at tdX12_tight 8 rfl) k_c_4 ?_
    exact x_ireturn (ty := .int) rfl rfl (x_at tdX12_tight 9 rfl) ⟨_, rfl, H⟩
  by_cases hx6 : x0 = 62
  · refine x_lsw (off := 81) 82 (x_at tdX12_tight 1 rfl) (by decide) hx6 (by decide) rfl ?_
    have H := H.2.2.2.2.2.2.1 hx6
    refine x_iconst (x_at tdX12_tight 8 rfl) k_c_4 ?_
    exact x_ireturn (ty := .int) rfl rfl (x_at tdX12_tight 9 rfl) ⟨_, rfl, H⟩
  by_cases hx7 : x0 = 124
  · refine x_lsw (off := 75) 76 (x_at tdX12_tight 1 rfl) (by decide) hx7 (by decide) rfl ?_
    have H := H.2.2.2.2.2.2.2.1 hx7
    refine x_iconst (x_at tdX12_tight 2 rfl) k_c_1 ?_
    exact x_ireturn (ty := .int) rfl rfl (x_at tdX12_tight 3 rfl) ⟨_, rfl, H⟩
  refine x_lookup (off := 85) 86 (x_at tdX12_tight 1 rfl) (by decide) (by rw [lv_osw hx0 (by decide), lv_osw hx1 (by decide), lv_osw hx2 (by decide), lv_osw hx3 (by decide), lv_osw hx4 (by decide), lv_osw hx5 (by decide), lv_osw hx6 (by decide), lv_osw hx7 (by decide)]; rfl) rfl ?_
  have H := H.2.2.2.2.2.2.2.2 hx0 hx1 hx2 hx3 hx4 hx5 hx6 hx7
  refine x_bipush (x_at tdX12_tight 12 rfl) k_b_6 ?_
  exact x_ireturn (ty := .int) rfl rfl (x_at tdX12_tight 13 rfl) ⟨_, rfl, H⟩
theorem e_M_close {h : xH} {d : Nat} {x1 : Int32} {S : xSt} {K : xSt → Prop}  (H : B_M_close_0 h d x1 S K) : M_M_close h d x1 S K := by
  refine x_enter pn_X12 (Nat.le_of_ble_eq_true rfl) ?_
  show X (gM h) _ _ 0 [(0, .ref (x_ad (gM h) 0)), (1, .int x1)] [] S _
  refine x_weak (lv' := [(0, .ref (x_ad (gM h) 0)), (1, .int x1)]) ⟨rfl, rfl, trivial⟩ ?_
  exact H
theorem b_M_close_0 {h : xH} {d : Nat}  {x1 : Int32} {S : xSt} {K : xSt → Prop}  (H : (((S.1 0 19) ≤ 0 → K S) ∧ (¬ (S.1 0 19) ≤ 0 → (vp_in ((S.1 0 19) - (1 : Int32)) 160 ∧ (((S.1 7 (((S.1 0 19) - (1 : Int32)) : Int32).toNatClampNeg) = 20 → K S) ∧ (¬ (S.1 7 (((S.1 0 19) - (1 : Int32)) : Int32).toNatClampNeg) = 20 → (vp_in ((S.1 0 19) - (1 : Int32)) 160 ∧ M_M_tight h d (S.1 7 (((S.1 0 19) - (1 : Int32)) : Int32).toNatClampNeg) S (fun (r1 : Int32) (S1 : xSt) => ((r1 < x1 → K S1) ∧ (¬ r1 < x1 → (vp_in ((S1.1 0 19) - (1 : Int32)) 160 ∧ ((¬ (S1.1 7 (((S1.1 0 19) - (1 : Int32)) : Int32).toNatClampNeg) = 21 → (vp_in ((S1.1 0 19) - (1 : Int32)) 160 ∧ M_M_add h d 3 (S1.1 7 (((S1.1 0 19) - (1 : Int32)) : Int32).toNatClampNeg) (x_putI S1 0 19 ((S1.1 0 19) - (1 : Int32))) (fun (S2 : xSt) => B_M_close_0 h d x1 S2 K))) ∧ ((S1.1 7 (((S1.1 0 19) - (1 : Int32)) : Int32).toNatClampNeg) = 21 → M_M_add h d 2 0 (x_putI S1 0 19 ((S1.1 0 19) - (1 : Int32))) (fun (S3 : xSt) => B_M_close_0 h d x1 (x_putI S3 0 23 ((S3.1 0 23) - (1 : Int32))) K)))))))))))))) : B_M_close_0 h d x1 S K := by
  unfold B_M_close_0
  refine x_aload_n (x_at tdX12_close 0 rfl) rfl rfl ?_
  refine gfM_0_19 (x_at tdX12_close 1 rfl) wf_X12_294 ?_
  refine x_if_le 101 (x_at tdX12_close 2 rfl) rfl (fun c => ?_) (fun c => ?_)
  · have H := H.1 c
    exact x_return rfl (x_at tdX12_close 55 rfl) ⟨rfl, H⟩
  · have H := H.2 c
    refine x_aload_n (x_at tdX12_close 3 rfl) rfl rfl ?_
    refine gfM_0_15 (x_at tdX12_close 4 rfl) wf_X12_33 ?_
    refine x_aload_n (x_at tdX12_close 5 rfl) rfl rfl ?_
    refine gfM_0_19 (x_at tdX12_close 6 rfl) wf_X12_294 ?_
    refine x_iconst (x_at tdX12_close 7 rfl) k_c_1 ?_
    refine x_isub (x_at tdX12_close 8 rfl) ?_
    refine x_iald (lM_7 h) (x_at tdX12_close 9 rfl) H.1 ?_
    have H := H.2
    refine x_bipush (x_at tdX12_close 10 rfl) k_b_20 ?_
    refine x_ic_eq 101 (x_at tdX12_close 11 rfl) rfl (fun c => ?_) (fun c => ?_)
    · have H := H.1 c
      exact x_return rfl (x_at tdX12_close 55 rfl) ⟨rfl, H⟩
    · have H := H.2 c
      refine x_aload_n (x_at tdX12_close 12 rfl) rfl rfl ?_
      refine gfM_0_15 (x_at tdX12_close 13 rfl) wf_X12_33 ?_
      refine x_aload_n (x_at tdX12_close 14 rfl) rfl rfl ?_
      refine gfM_0_19 (x_at tdX12_close 15 rfl) wf_X12_294 ?_
      refine x_iconst (x_at tdX12_close 16 rfl) k_c_1 ?_
      refine x_isub (x_at tdX12_close 17 rfl) ?_
      refine x_iald (lM_7 h) (x_at tdX12_close 18 rfl) H.1 ?_
      have H := H.2
      refine x_cSi (as := [.int (S.1 7 (((S.1 0 19) - (1 : Int32)) : Int32).toNatClampNeg)]) (rest := []) mi_X12_tight (x_at tdX12_close 19 rfl) wm_X12_297 rfl (Nat.le_of_ble_eq_true rfl) rfl H (fun r1 S1 H => ?_)
      refine x_iload_n (x_at tdX12_close 20 rfl) rfl rfl ?_
      refine x_ic_lt 101 (x_at tdX12_close 21 rfl) rfl (fun c => ?_) (fun c => ?_)
      · have H := H.1 c
        exact x_return rfl (x_at tdX12_close 55 rfl) ⟨rfl, H⟩
      · have H := H.2 c
        refine x_aload_n (x_at tdX12_close 22 rfl) rfl rfl ?_
        refine x_dup (x_at tdX12_close 23 rfl) rfl ?_
        refine gfM_0_19 (x_at tdX12_close 24 rfl) wf_X12_294 ?_
        refine x_iconst (x_at tdX12_close 25 rfl) k_c_1 ?_
        refine x_isub (x_at tdX12_close 26 rfl) ?_
        refine pfM_0_19 (x_at tdX12_close 27 rfl) wf_X12_294 ?_
        refine x_aload_n (x_at tdX12_close 28 rfl) rfl rfl ?_
        refine gfM_0_15 (x_at tdX12_close 29 rfl) wf_X12_33 ?_
        refine x_aload_n (x_at tdX12_close 30 rfl) rfl rfl ?_
        refine gfM_0_19 (x_at tdX12_close 31 rfl) wf_X12_294 ?_
        refine x_top (v := ((S1.1 0 19) - (1 : Int32))) rfl ?_
        refine x_iald (lM_7 h) (x_at tdX12_close 32 rfl) H.1 ?_
        have H := H.2
        refine x_top (v := (S1.1 7 (((S1.1 0 19) - (1 : Int32)) : Int32).toNatClampNeg)) rfl ?_
        refine x_bipush (x_at tdX12_close 33 rfl) k_b_21 ?_
        refine x_ic_ne 84 (x_at tdX12_close 34 rfl) rfl (fun c => ?_) (fun c => ?_)
        · have H := H.1 c
          refine x_aload_n (x_at tdX12_close 46 rfl) rfl rfl ?_
          refine x_iconst (x_at tdX12_close 47 rfl) k_c_3 ?_
          refine x_aload_n (x_at tdX12_close 48 rfl) rfl rfl ?_
          refine gfM_0_15 (x_at tdX12_close 49 rfl) wf_X12_33 ?_
          refine x_aload_n (x_at tdX12_close 50 rfl) rfl rfl ?_
          refine gfM_0_19 (x_at tdX12_close 51 rfl) wf_X12_294 ?_
          refine x_top (v := ((S1.1 0 19) - (1 : Int32))) rfl ?_
          refine x_iald (lM_7 h) (x_at tdX12_close 52 rfl) H.1 ?_
          have H := H.2
          refine x_top (v := (S1.1 7 (((S1.1 0 19) - (1 : Int32)) : Int32).toNatClampNeg)) rfl ?_
          refine x_cVv (as := [.int 3, .int (S1.1 7 (((S1.1 0 19) - (1 : Int32)) : Int32).toNatClampNeg)]) (rest := []) mi_X12_add vc_12 (lM_0 h) (x_at tdX12_close 53 rfl) wm_X12_300 rfl (Nat.le_of_ble_eq_true rfl) rfl H (fun S2 H => ?_)
          refine x_goto 0 (x_at tdX12_close 54 rfl) rfl ?_
          refine x_weak (lv' := [(0, .ref (x_ad (gM h) 0)), (1, .int x1)]) ⟨rfl, rfl, trivial⟩ ?_
          exact H
        · have H := H.2 c
          refine x_aload_n (x_at tdX12_close 35 rfl) rfl rfl ?_
          refine x_iconst (x_at tdX12_close 36 rfl) k_c_2 ?_
          refine x_iconst (x_at tdX12_close 37 rfl) k_c_0 ?_
          refine x_cVv (as := [.int 2, .int 0]) (rest := []) mi_X12_add vc_12 (lM_0 h) (x_at tdX12_close 38 rfl) wm_X12_300 rfl (Nat.le_of_ble_eq_true rfl) rfl H (fun S3 H => ?_)
          refine x_aload_n (x_at tdX12_close 39 rfl) rfl rfl ?_
          refine x_dup (x_at tdX12_close 40 rfl) rfl ?_
          refine gfM_0_23 (x_at tdX12_close 41 rfl) wf_X12_304 ?_
          refine x_iconst (x_at tdX12_close 42 rfl) k_c_1 ?_
          refine x_isub (x_at tdX12_close 43 rfl) ?_
          refine pfM_0_23 (x_at tdX12_close 44 rfl) wf_X12_304 ?_
          refine x_goto 0 (x_at tdX12_close 45 rfl) rfl ?_
          refine x_weak (lv' := [(0, .ref (x_ad (gM h) 0)), (1, .int x1)]) ⟨rfl, rfl, trivial⟩ ?_
          exact H
theorem e_M_hasBracket {h : xH} {d : Nat}  {S : xSt} {K : Int32 → xSt → Prop}  (H : B_M_hasBracket_4 h d 0 0 S K) : M_M_hasBracket h d S K := by
  refine x_enter pn_X12 (Nat.le_of_ble_eq_true rfl) ?_
  show X (gM h) _ _ 0 [(0, .ref (x_ad (gM h) 0))] [] S _
  refine x_iconst (x_at tdX12_hasBracket 0 rfl) k_c_0 ?_
  refine x_istore_n (x_at tdX12_hasBracket 1 rfl) rfl (by decide) ?_
  refine x_iconst (x_at tdX12_hasBracket 2 rfl) k_c_0 ?_
  refine x_istore_n (x_at tdX12_hasBracket 3 rfl) rfl (by decide) ?_
  refine x_weak (lv' := [(0, .ref (x_ad (gM h) 0)), (1, .int 0), (2, .int 0)]) ⟨rfl, rfl, rfl, trivial⟩ ?_
  exact H
theorem b_M_hasBracket_4 {h : xH} {d : Nat}  {x1 : Int32} {x2 : Int32} {S : xSt} {K : Int32 → xSt → Prop}  (H : (((S.1 0 19) ≤ x2 → (zb x1 ∧ K x1 S)) ∧ (¬ (S.1 0 19) ≤ x2 → ((¬ x1 = 0 → B_M_hasBracket_27 h d x2 S K) ∧ (x1 = 0 → (vp_in x2 160 ∧ ((¬ (S.1 7 (x2 : Int32).toNatClampNeg) = 20 → B_M_hasBracket_32 h d x2 0 S K) ∧ ((S.1 7 (x2 : Int32).toNatClampNeg) = 20 → B_M_hasBracket_27 h d x2 S K)))))))) : B_M_hasBracket_4 h d x1 x2 S K := by
  unfold B_M_hasBracket_4
  refine x_iload_n (x_at tdX12_hasBracket 4 rfl) rfl rfl ?_
  refine x_aload_n (x_at tdX12_hasBracket 5 rfl) rfl rfl ?_
  refine gfM_0_19 (x_at tdX12_hasBracket 6 rfl) wf_X12_294 ?_
  refine x_ic_ge 39 (x_at tdX12_hasBracket 7 rfl) rfl (fun c => ?_) (fun c => ?_)
  · have H := H.1 c
    refine x_iload_n (x_at tdX12_hasBracket 22 rfl) rfl rfl ?_
    exact x_ireturn (ty := .boolean) rfl H.1.1 (x_at tdX12_hasBracket 23 rfl) ⟨_, rfl, H.2⟩
  · have H := H.2 c
    refine x_iload_n (x_at tdX12_hasBracket 8 rfl) rfl rfl ?_
    refine x_if_ne 27 (x_at tdX12_hasBracket 9 rfl) rfl (fun c => ?_) (fun c => ?_)
    · have H := H.1 c
      refine x_weak (lv' := [(0, .ref (x_ad (gM h) 0)), (2, .int x2)]) ⟨rfl, rfl, trivial⟩ ?_
      exact H
    · have H := H.2 c
      refine x_aload_n (x_at tdX12_hasBracket 10 rfl) rfl rfl ?_
      refine gfM_0_15 (x_at tdX12_hasBracket 11 rfl) wf_X12_33 ?_
      refine x_iload_n (x_at tdX12_hasBracket 12 rfl) rfl rfl ?_
      refine x_iald (lM_7 h) (x_at tdX12_hasBracket 13 rfl) H.1 ?_
      have H := H.2
      refine x_bipush (x_at tdX12_hasBracket 14 rfl) k_b_20 ?_
      refine x_ic_ne 31 (x_at tdX12_hasBracket 15 rfl) rfl (fun c => ?_) (fun c => ?_)
      · have H := H.1 c
        refine x_iconst (x_at tdX12_hasBracket 18 rfl) k_c_0 ?_
        refine x_weak (lv' := [(0, .ref (x_ad (gM h) 0)), (2, .int x2)]) ⟨rfl, rfl, trivial⟩ ?_
        exact H
      · have H := H.2 c
        refine x_weak (lv' := [(0, .ref (x_ad (gM h) 0)), (2, .int x2)]) ⟨rfl, rfl, trivial⟩ ?_
        exact H
theorem b_M_hasBracket_27 {h : xH} {d : Nat}  {x2 : Int32} {S : xSt} {K : Int32 → xSt → Prop}  (H : B_M_hasBracket_32 h d x2 1 S K) : B_M_hasBracket_27 h d x2 S K := by
  unfold B_M_hasBracket_27
  refine x_iconst (x_at tdX12_hasBracket 16 rfl) k_c_1 ?_
  refine x_goto 32 (x_at tdX12_hasBracket 17 rfl) rfl ?_
  refine x_weak (lv' := [(0, .ref (x_ad (gM h) 0)), (2, .int x2)]) ⟨rfl, rfl, trivial⟩ ?_
  exact H
theorem b_M_hasBracket_32 {h : xH} {d : Nat}  {x2 : Int32} {s0 : Int32} {S : xSt} {K : Int32 → xSt → Prop}  (H : B_M_hasBracket_4 h d s0 (x2 + 1) S K) : B_M_hasBracket_32 h d x2 s0 S K := by
  unfold B_M_hasBracket_32
  refine x_istore_n (x_at tdX12_hasBracket 19 rfl) rfl (by decide) ?_
  refine x_iinc (x_at tdX12_hasBracket 20 rfl) rfl (k_inc_1 _) (by decide) ?_
  refine x_goto 4 (x_at tdX12_hasBracket 21 rfl) rfl ?_
  refine x_weak (lv' := [(0, .ref (x_ad (gM h) 0)), (1, .int s0), (2, .int (x2 + 1))]) ⟨rfl, rfl, rfl, trivial⟩ ?_
  exact H
theorem e_M_hasRelation {h : xH} {d : Nat}  {S : xSt} {K : Int32 → xSt → Prop}  (H : B_M_hasRelation_7 h d ((S.1 0 19) - (1 : Int32)) S K) : M_M_hasRelation h d S K := by
  refine x_enter pn_X12 (Nat.le_of_ble_eq_true rfl) ?_
  show X (gM h) _ _ 0 [(0, .ref (x_ad (gM h) 0))] [] S _
  refine x_aload_n (x_at tdX12_hasRelation 0 rfl) rfl rfl ?_
  refine gfM_0_19 (x_at tdX12_hasRelation 1 rfl) wf_X12_294 ?_
  refine x_iconst (x_at tdX12_hasRelation 2 rfl) k_c_1 ?_
  refine x_isub (x_at tdX12_hasRelation 3 rfl) ?_
  refine x_istore_n (x_at tdX12_hasRelation 4 rfl) rfl (by decide) ?_
  refine x_weak (lv' := [(0, .ref (x_ad (gM h) 0)), (1, .int ((S.1 0 19) - (1 : Int32)))]) ⟨rfl, rfl, trivial⟩ ?_
  exact H
theorem b_M_hasRelation_7 {h : xH} {d : Nat}  {x1 : Int32} {S : xSt} {K : Int32 → xSt → Prop}  (H : ((x1 < 0 → B_M_hasRelation_41 h d x1 S K) ∧ (¬ x1 < 0 → (vp_in x1 160 ∧ (((S.1 7 (x1 : Int32).toNatClampNeg) = 20 → B_M_hasRelation_41 h d x1 S K) ∧ (¬ (S.1 7 (x1 : Int32).toNatClampNeg) = 20 → (vp_in x1 160 ∧ M_M_tight h d (S.1 7 (x1 : Int32).toNatClampNeg) S (fun (r1 : Int32) (S1 : xSt) => ((r1 ≤ 4 → B_M_hasRelation_41 h d x1 S1 K) ∧ (¬ r1 ≤ 4 → B_M_hasRelation_7 h d (x1 + (-1)) S1 K)))))))))) : B_M_hasRelation_7 h d x1 S K := by
  unfold B_M_hasRelation_7
  refine x_iload_n (x_at tdX12_hasRelation 5 rfl) rfl rfl ?_
  refine x_if_lt 41 (x_at tdX12_hasRelation 6 rfl) rfl (fun c => ?_) (fun c => ?_)
  · have H := H.1 c
    refine x_weak (lv' := [(0, .ref (x_ad (gM h) 0)), (1, .int x1)]) ⟨rfl, rfl, trivial⟩ ?_
    exact H
  · have H := H.2 c
    refine x_aload_n (x_at tdX12_hasRelation 7 rfl) rfl rfl ?_
    refine gfM_0_15 (x_at tdX12_hasRelation 8 rfl) wf_X12_33 ?_
    refine x_iload_n (x_at tdX12_hasRelation 9 rfl) rfl rfl ?_
    refine x_iald (lM_7 h) (x_at tdX12_hasRelation 10 rfl) H.1 ?_
    have H := H.2
    refine x_bipush (x_at tdX12_hasRelation 11 rfl) k_b_20 ?_
    refine x_ic_eq 41 (x_at tdX12_hasRelation 12 rfl) rfl (fun c => ?_) (fun c => ?_)
    · have H := H.1 c
      refine x_weak (lv' := [(0, .ref (x_ad (gM h) 0)), (1, .int x1)]) ⟨rfl, rfl, trivial⟩ ?_
      exact H
    · have H := H.2 c
      refine x_aload_n (x_at tdX12_hasRelation 13 rfl) rfl rfl ?_
      refine gfM_0_15 (x_at tdX12_hasRelation 14 rfl) wf_X12_33 ?_
      refine x_iload_n (x_at tdX12_hasRelation 15 rfl) rfl rfl ?_
      refine x_iald (lM_7 h) (x_at tdX12_hasRelation 16 rfl) H.1 ?_
      have H := H.2
      refine x_cSi (as := [.int (S.1 7 (x1 : Int32).toNatClampNeg)]) (rest := []) mi_X12_tight (x_at tdX12_hasRelation 17 rfl) wm_X12_297 rfl (Nat.le_of_ble_eq_true rfl) rfl H (fun r1 S1 H => ?_)
      refine x_iconst (x_at tdX12_hasRelation 18 rfl) k_c_4 ?_
      refine x_ic_le 41 (x_at tdX12_hasRelation 19 rfl) rfl (fun c => ?_) (fun c => ?_)
      · have H := H.1 c
        refine x_weak (lv' := [(0, .ref (x_ad (gM h) 0)), (1, .int x1)]) ⟨rfl, rfl, trivial⟩ ?_
        exact H
      · have H := H.2 c
        refine x_iinc (x_at tdX12_hasRelation 20 rfl) rfl (k_inc_m1 _) (by decide) ?_
        refine x_goto 7 (x_at tdX12_hasRelation 21 rfl) rfl ?_
        refine x_weak (lv' := [(0, .ref (x_ad (gM h) 0)), (1, .int (x1 + (-1)))]) ⟨rfl, rfl, trivial⟩ ?_
        exact H
theorem b_M_hasRelation_41 {h : xH} {d : Nat}  {x1 : Int32} {S : xSt} {K : Int32 → xSt → Prop}  (H : ((x1 < 0 → K 0 S) ∧ (¬ x1 < 0 → (vp_in x1 160 ∧ (((S.1 7 (x1 : Int32).toNatClampNeg) = 20 → K 0 S) ∧ (¬ (S.1 7 (x1 : Int32).toNatClampNeg) = 20 → (vp_in x1 160 ∧ M_M_tight h d (S.1 7 (x1 : Int32).toNatClampNeg) S (fun (r1 : Int32) (S1 : xSt) => ((¬ r1 = 4 → K 0 S1) ∧ (r1 = 4 → K 1 S1)))))))))) : B_M_hasRelation_41 h d x1 S K := by
  unfold B_M_hasRelation_41
  refine x_iload_n (x_at tdX12_hasRelation 22 rfl) rfl rfl ?_
  refine x_if_lt 73 (x_at tdX12_hasRelation 23 rfl) rfl (fun c => ?_) (fun c => ?_)
  · have H := H.1 c
    refine x_iconst (x_at tdX12_hasRelation 39 rfl) k_c_0 ?_
    exact x_ireturn (ty := .boolean) rfl zb0.1 (x_at tdX12_hasRelation 40 rfl) ⟨_, rfl, H⟩
  · have H := H.2 c
    refine x_aload_n (x_at tdX12_hasRelation 24 rfl) rfl rfl ?_
    refine gfM_0_15 (x_at tdX12_hasRelation 25 rfl) wf_X12_33 ?_
    refine x_iload_n (x_at tdX12_hasRelation 26 rfl) rfl rfl ?_
    refine x_iald (lM_7 h) (x_at tdX12_hasRelation 27 rfl) H.1 ?_
    have H := H.2
    refine x_bipush (x_at tdX12_hasRelation 28 rfl) k_b_20 ?_
    refine x_ic_eq 73 (x_at tdX12_hasRelation 29 rfl) rfl (fun c => ?_) (fun c => ?_)
    · have H := H.1 c
      refine x_iconst (x_at tdX12_hasRelation 39 rfl) k_c_0 ?_
      exact x_ireturn (ty := .boolean) rfl zb0.1 (x_at tdX12_hasRelation 40 rfl) ⟨_, rfl, H⟩
    · have H := H.2 c
      refine x_aload_n (x_at tdX12_hasRelation 30 rfl) rfl rfl ?_
      refine gfM_0_15 (x_at tdX12_hasRelation 31 rfl) wf_X12_33 ?_
      refine x_iload_n (x_at tdX12_hasRelation 32 rfl) rfl rfl ?_
      refine x_iald (lM_7 h) (x_at tdX12_hasRelation 33 rfl) H.1 ?_
      have H := H.2
      refine x_cSi (as := [.int (S.1 7 (x1 : Int32).toNatClampNeg)]) (rest := []) mi_X12_tight (x_at tdX12_hasRelation 34 rfl) wm_X12_297 rfl (Nat.le_of_ble_eq_true rfl) rfl H (fun r1 S1 H => ?_)
      refine x_iconst (x_at tdX12_hasRelation 35 rfl) k_c_4 ?_
      refine x_ic_ne 73 (x_at tdX12_hasRelation 36 rfl) rfl (fun c => ?_) (fun c => ?_)
      · have H := H.1 c
        refine x_iconst (x_at tdX12_hasRelation 39 rfl) k_c_0 ?_
        exact x_ireturn (ty := .boolean) rfl zb0.1 (x_at tdX12_hasRelation 40 rfl) ⟨_, rfl, H⟩
      · have H := H.2 c
        refine x_iconst (x_at tdX12_hasRelation 37 rfl) k_c_1 ?_
        refine x_goto 74 (x_at tdX12_hasRelation 38 rfl) rfl ?_
        exact x_ireturn (ty := .boolean) rfl zb1.1 (x_at tdX12_hasRelation 40 rfl) ⟨_, rfl, H⟩
theorem e_M_sign {h : xH} {d : Nat}  {S : xSt} {K : Int32 → xSt → Prop}  (H : M_M_isWord h d 6385252 S (fun (r1 : Int32) (S1 : xSt) => ((r1 = 0 → M_M_isWord h d 28530 S1 (fun (r2 : Int32) (S2 : xSt) => ((r2 = 0 → (((S2.1 0 6) = 60 → K (S2.1 0 6) S2) ∧ (¬ (S2.1 0 6) = 60 → (((S2.1 0 6) = 62 → K (S2.1 0 6) S2) ∧ (¬ (S2.1 0 6) = 62 → (((S2.1 0 6) = 61 → K (S2.1 0 6) S2) ∧ (¬ (S2.1 0 6) = 61 → (((S2.1 0 6) = 43 → K (S2.1 0 6) S2) ∧ (¬ (S2.1 0 6) = 43 → (((S2.1 0 6) = 45 → K (S2.1 0 6) S2) ∧ (¬ (S2.1 0 6) = 45 → (((S2.1 0 6) = 42 → K (S2.1 0 6) S2) ∧ (¬ (S2.1 0 6) = 42 → (((S2.1 0 6) = 47 → K (S2.1 0 6) S2) ∧ (¬ (S2.1 0 6) = 47 → ((¬ (S2.1 0 6) = 37 → K 0 S2) ∧ ((S2.1 0 6) = 37 → K (S2.1 0 6) S2))))))))))))))))) ∧ (¬ r2 = 0 → K 124 S2)))) ∧ (¬ r1 = 0 → K 38 S1)))) : M_M_sign h d S K := by
  refine x_enter pn_X12 (Nat.le_of_ble_eq_true rfl) ?_
  show X (gM h) _ _ 0 [(0, .ref (x_ad (gM h) 0))] [] S _
  refine x_aload_n (x_at tdX12_sign 0 rfl) rfl rfl ?_
  refine x_ldc2 (x_at tdX12_sign 1 rfl) wk_X12_253 ?_
  refine x_cVi (as := [.long 6385252]) (rest := []) mi_X12_isWord vc_12 (lM_0 h) (x_at tdX12_sign 2 rfl) wm_X12_263 rfl (Nat.le_of_ble_eq_true rfl) rfl H (fun r1 S1 H => ?_)
  refine x_if_eq 13 (x_at tdX12_sign 3 rfl) rfl (fun c => ?_) (fun c => ?_)
  · have H := H.1 c
    refine x_aload_n (x_at tdX12_sign 6 rfl) rfl rfl ?_
    refine x_ldc2 (x_at tdX12_sign 7 rfl) wk_X12_255 ?_
    refine x_cVi (as := [.long 28530]) (rest := []) mi_X12_isWord vc_12 (lM_0 h) (x_at tdX12_sign 8 rfl) wm_X12_263 rfl (Nat.le_of_ble_eq_true rfl) rfl H (fun r2 S2 H => ?_)
    refine x_if_eq 26 (x_at tdX12_sign 9 rfl) rfl (fun c => ?_) (fun c => ?_)
    · have H := H.1 c
      refine x_aload_n (x_at tdX12_sign 12 rfl) rfl rfl ?_
      refine gfM_0_6 (x_at tdX12_sign 13 rfl) wf_X12_199 ?_
      refine x_bipush (x_at tdX12_sign 14 rfl) k_b_60 ?_
      refine x_ic_eq 98 (x_at tdX12_sign 15 rfl) rfl (fun c => ?_) (fun c => ?_)
      · have H := H.1 c
        refine x_aload_n (x_at tdX12_sign 44 rfl) rfl rfl ?_
        refine gfM_0_6 (x_at tdX12_sign 45 rfl) wf_X12_199 ?_
        refine x_goto 106 (x_at tdX12_sign 46 rfl) rfl ?_
        exact x_ireturn (ty := .int) rfl rfl (x_at tdX12_sign 48 rfl) ⟨_, rfl, H⟩
      · have H := H.2 c
        refine x_aload_n (x_at tdX12_sign 16 rfl) rfl rfl ?_
        refine gfM_0_6 (x_at tdX12_sign 17 rfl) wf_X12_199 ?_
        refine x_bipush (x_at tdX12_sign 18 rfl) k_b_62 ?_
        refine x_ic_eq 98 (x_at tdX12_sign 19 rfl) rfl (fun c => ?_) (fun c => ?_)
        · have H := H.1 c
          refine x_aload_n (x_at tdX12_sign 44 rfl) rfl rfl ?_
          refine gfM_0_6 (x_at tdX12_sign 45 rfl) wf_X12_199 ?_
          refine x_goto 106 (x_at tdX12_sign 46 rfl) rfl ?_
          exact x_ireturn (ty := .int) rfl rfl (x_at tdX12_sign 48 rfl) ⟨_, rfl, H⟩
        · have H := H.2 c
          refine x_aload_n (x_at tdX12_sign 20 rfl) rfl rfl ?_
          refine gfM_0_6 (x_at tdX12_sign 21 rfl) wf_X12_199 ?_
          refine x_bipush (x_at tdX12_sign 22 rfl) k_b_61 ?_
          refine x_ic_eq 98 (x_at tdX12_sign 23 rfl) rfl (fun c => ?_) (fun c => ?_)
          · have H := H.1 c
            refine x_aload_n (x_at tdX12_sign 44 rfl) rfl rfl ?_
            refine gfM_0_6 (x_at tdX12_sign 45 rfl) wf_X12_199 ?_
            refine x_goto 106 (x_at tdX12_sign 46 rfl) rfl ?_
            exact x_ireturn (ty := .int) rfl rfl (x_at tdX12_sign 48 rfl) ⟨_, rfl, H⟩
          · have H := H.2 c
            refine x_aload_n (x_at tdX12_sign 24 rfl) rfl rfl ?_
            refine gfM_0_6 (x_at tdX12_sign 25 rfl) wf_X12_199 ?_
            refine x_bipush (x_at tdX12_sign 26 rfl) k_b_43 ?_
            refine x_ic_eq 98 (x_at tdX12_sign 27 rfl) rfl (fun c => ?_) (fun c => ?_)
            · have H := H.1 c
              refine x_aload_n (x_at tdX12_sign 44 rfl) rfl rfl ?_
              refine gfM_0_6 (x_at tdX12_sign 45 rfl) wf_X12_199 ?_
              refine x_goto 106 (x_at tdX12_sign 46 rfl) rfl ?_
              exact x_ireturn (ty := .int) rfl rfl (x_at tdX12_sign 48 rfl) ⟨_, rfl, H⟩
            · have H := H.2 c
              refine x_aload_n (x_at tdX12_sign 28 rfl) rfl rfl ?_
              refine gfM_0_6 (x_at tdX12_sign 29 rfl) wf_X12_199 ?_
              refine x_bipush (x_at tdX12_sign 30 rfl) k_b_45 ?_
              refine x_ic_eq 98 (x_at tdX12_sign 31 rfl) rfl (fun c => ?_) (fun c => ?_)
              · have H := H.1 c
                refine x_aload_n (x_at tdX12_sign 44 rfl) rfl rfl ?_
                refine gfM_0_6 (x_at tdX12_sign 45 rfl) wf_X12_199 ?_
                refine x_goto 106 (x_at tdX12_sign 46 rfl) rfl ?_
                exact x_ireturn (ty := .int) rfl rfl (x_at tdX12_sign 48 rfl) ⟨_, rfl, H⟩
              · have H := H.2 c
                refine x_aload_n (x_at tdX12_sign 32 rfl) rfl rfl ?_
                refine gfM_0_6 (x_at tdX12_sign 33 rfl) wf_X12_199 ?_
                refine x_bipush (x_at tdX12_sign 34 rfl) k_b_42 ?_
                refine x_ic_eq 98 (x_at tdX12_sign 35 rfl) rfl (fun c => ?_) (fun c => ?_)
                · have H := H.1 c
                  refine x_aload_n (x_at tdX12_sign 44 rfl) rfl rfl ?_
                  refine gfM_0_6 (x_at tdX12_sign 45 rfl) wf_X12_199 ?_
                  refine x_goto 106 (x_at tdX12_sign 46 rfl) rfl ?_
                  exact x_ireturn (ty := .int) rfl rfl (x_at tdX12_sign 48 rfl) ⟨_, rfl, H⟩
                · have H := H.2 c
                  refine x_aload_n (x_at tdX12_sign 36 rfl) rfl rfl ?_
                  refine gfM_0_6 (x_at tdX12_sign 37 rfl) wf_X12_199 ?_
                  refine x_bipush (x_at tdX12_sign 38 rfl) k_b_47 ?_
                  refine x_ic_eq 98 (x_at tdX12_sign 39 rfl) rfl (fun c => ?_) (fun c => ?_)
                  · have H := H.1 c
                    refine x_aload_n (x_at tdX12_sign 44 rfl) rfl rfl ?_
                    refine gfM_0_6 (x_at tdX12_sign 45 rfl) wf_X12_199 ?_
                    refine x_goto 106 (x_at tdX12_sign 46 rfl) rfl ?_
                    exact x_ireturn (ty := .int) rfl rfl (x_at tdX12_sign 48 rfl) ⟨_, rfl, H⟩
                  · have H := H.2 c
                    refine x_aload_n (x_at tdX12_sign 40 rfl) rfl rfl ?_
                    refine gfM_0_6 (x_at tdX12_sign 41 rfl) wf_X12_199 ?_
                    refine x_bipush (x_at tdX12_sign 42 rfl) k_b_37 ?_
                    refine x_ic_ne 105 (x_at tdX12_sign 43 rfl) rfl (fun c => ?_) (fun c => ?_)
                    · have H := H.1 c
                      refine x_iconst (x_at tdX12_sign 47 rfl) k_c_0 ?_
                      exact x_ireturn (ty := .int) rfl rfl (x_at tdX12_sign 48 rfl) ⟨_, rfl, H⟩
                    · have H := H.2 c
                      refine x_aload_n (x_at tdX12_sign 44 rfl) rfl rfl ?_
                      refine gfM_0_6 (x_at tdX12_sign 45 rfl) wf_X12_199 ?_
                      refine x_goto 106 (x_at tdX12_sign 46 rfl) rfl ?_
                      exact x_ireturn (ty := .int) rfl rfl (x_at tdX12_sign 48 rfl) ⟨_, rfl, H⟩
    · have H := H.2 c
      refine x_bipush (x_at tdX12_sign 10 rfl) k_b_124 ?_
      exact x_ireturn (ty := .int) rfl rfl (x_at tdX12_sign 11 rfl) ⟨_, rfl, H⟩
  · have H := H.2 c
    refine x_bipush (x_at tdX12_sign 4 rfl) k_b_38 ?_
    exact x_ireturn (ty := .int) rfl rfl (x_at tdX12_sign 5 rfl) ⟨_, rfl, H⟩
theorem e_M_asked {h : xH} {d : Nat}  {S : xSt} {K : Int32 → xSt → Prop}  (H : (((S.1 0 6) = 1 → ((¬ (S.2.1 0 9) = 127991944667492 → ((¬ (S.2.1 0 9) = 448545973619 → ((¬ (S.2.1 0 9) = 495874699885 → ((¬ (S.2.1 0 9) = 6578553 → K (-1) S) ∧ ((S.2.1 0 9) = 6578553 → K 3 S))) ∧ ((S.2.1 0 9) = 495874699885 → K 2 S))) ∧ ((S.2.1 0 9) = 448545973619 → K 1 S))) ∧ ((S.2.1 0 9) = 127991944667492 → K 0 S))) ∧ (¬ (S.1 0 6) = 1 → K (-1) S))) : M_M_asked h d S K := by
  refine x_enter pn_X12 (Nat.le_of_ble_eq_true rfl) ?_
  show X (gM h) _ _ 0 [(0, .ref (x_ad (gM h) 0))] [] S _
  refine x_aload_n (x_at tdX12_asked 0 rfl) rfl rfl ?_
  refine gfM_0_6 (x_at tdX12_asked 1 rfl) wf_X12_199 ?_
  refine x_iconst (x_at tdX12_asked 2 rfl) k_c_1 ?_
  refine x_ic_eq 10 (x_at tdX12_asked 3 rfl) rfl (fun c => ?_) (fun c => ?_)
  · have H := H.1 c
    refine x_aload_n (x_at tdX12_asked 6 rfl) rfl rfl ?_
    refine gfM_0_9 (x_at tdX12_asked 7 rfl) wf_X12_192 ?_
    refine x_ldc2 (x_at tdX12_asked 8 rfl) wk_X12_239 ?_
    refine x_lc_ne 23 (x_at tdX12_asked 9 rfl) (x_at tdX12_asked 10 rfl) rfl (fun c => ?_) (fun c => ?_)
    · have H := H.1 c
      refine x_aload_n (x_at tdX12_asked 13 rfl) rfl rfl ?_
      refine gfM_0_9 (x_at tdX12_asked 14 rfl) wf_X12_192 ?_
      refine x_ldc2 (x_at tdX12_asked 15 rfl) wk_X12_219 ?_
      refine x_lc_ne 36 (x_at tdX12_asked 16 rfl) (x_at tdX12_asked 17 rfl) rfl (fun c => ?_) (fun c => ?_)
      · have H := H.1 c
        refine x_aload_n (x_at tdX12_asked 20 rfl) rfl rfl ?_
        refine gfM_0_9 (x_at tdX12_asked 21 rfl) wf_X12_192 ?_
        refine x_ldc2 (x_at tdX12_asked 22 rfl) wk_X12_249 ?_
        refine x_lc_ne 49 (x_at tdX12_asked 23 rfl) (x_at tdX12_asked 24 rfl) rfl (fun c => ?_) (fun c => ?_)
        · have H := H.1 c
          refine x_aload_n (x_at tdX12_asked 27 rfl) rfl rfl ?_
          refine gfM_0_9 (x_at tdX12_asked 28 rfl) wf_X12_192 ?_
          refine x_ldc2 (x_at tdX12_asked 29 rfl) wk_X12_247 ?_
          refine x_lc_ne 64 (x_at tdX12_asked 30 rfl) (x_at tdX12_asked 31 rfl) rfl (fun c => ?_) (fun c => ?_)
          · have H := H.1 c
            refine x_iconst (x_at tdX12_asked 34 rfl) k_c_m1 ?_
            exact x_ireturn (ty := .int) rfl rfl (x_at tdX12_asked 35 rfl) ⟨_, rfl, H⟩
          · have H := H.2 c
            refine x_iconst (x_at tdX12_asked 32 rfl) k_c_3 ?_
            refine x_goto 65 (x_at tdX12_asked 33 rfl) rfl ?_
            exact x_ireturn (ty := .int) rfl rfl (x_at tdX12_asked 35 rfl) ⟨_, rfl, H⟩
        · have H := H.2 c
          refine x_iconst (x_at tdX12_asked 25 rfl) k_c_2 ?_
          exact x_ireturn (ty := .int) rfl rfl (x_at tdX12_asked 26 rfl) ⟨_, rfl, H⟩
      · have H := H.2 c
        refine x_iconst (x_at tdX12_asked 18 rfl) k_c_1 ?_
        exact x_ireturn (ty := .int) rfl rfl (x_at tdX12_asked 19 rfl) ⟨_, rfl, H⟩
    · have H := H.2 c
      refine x_iconst (x_at tdX12_asked 11 rfl) k_c_0 ?_
      exact x_ireturn (ty := .int) rfl rfl (x_at tdX12_asked 12 rfl) ⟨_, rfl, H⟩
  · have H := H.2 c
    refine x_iconst (x_at tdX12_asked 4 rfl) k_c_m1 ?_
    exact x_ireturn (ty := .int) rfl rfl (x_at tdX12_asked 5 rfl) ⟨_, rfl, H⟩
theorem e_M_countUnit {h : xH} {d : Nat}  {S : xSt} {K : xSt → Prop}  (H : K (x_putI (x_putI S 0 20 ((S.1 0 20) + (1 : Int32))) 0 22 ((S.1 0 22) + (1 : Int32)))) : M_M_countUnit h d S K := by
  refine x_enter pn_X12 (Nat.le_of_ble_eq_true rfl) ?_
  show X (gM h) _ _ 0 [(0, .ref (x_ad (gM h) 0))] [] S _
  refine x_aload_n (x_at tdX12_countUnit 0 rfl) rfl rfl ?_
  refine x_dup (x_at tdX12_countUnit 1 rfl) rfl ?_
  refine gfM_0_20 (x_at tdX12_countUnit 2 rfl) wf_X12_307 ?_
  refine x_iconst (x_at tdX12_countUnit 3 rfl) k_c_1 ?_
  refine x_iadd (x_at tdX12_countUnit 4 rfl) ?_
  refine pfM_0_20 (x_at tdX12_countUnit 5 rfl) wf_X12_307 ?_
  refine x_aload_n (x_at tdX12_countUnit 6 rfl) rfl rfl ?_
  refine x_dup (x_at tdX12_countUnit 7 rfl) rfl ?_
  refine gfM_0_22 (x_at tdX12_countUnit 8 rfl) wf_X12_310 ?_
  refine x_top (v := (S.1 0 22)) rfl ?_
  refine x_iconst (x_at tdX12_countUnit 9 rfl) k_c_1 ?_
  refine x_iadd (x_at tdX12_countUnit 10 rfl) ?_
  refine pfM_0_22 (x_at tdX12_countUnit 11 rfl) wf_X12_310 ?_
  exact x_return rfl (x_at tdX12_countUnit 12 rfl) ⟨rfl, H⟩
theorem e_M_isFull {h : xH} {d : Nat}  {S : xSt} {K : Int32 → xSt → Prop}  (H : (((S.1 0 20) = 60 → K 1 S) ∧ (¬ (S.1 0 20) = 60 → ((¬ (S.1 0 22) = 30 → K 0 S) ∧ ((S.1 0 22) = 30 → K 1 S))))) : M_M_isFull h d S K := by
  refine x_enter pn_X12 (Nat.le_of_ble_eq_true rfl) ?_
  show X (gM h) _ _ 0 [(0, .ref (x_ad (gM h) 0))] [] S _
  refine x_aload_n (x_at tdX12_isFull 0 rfl) rfl rfl ?_
  refine gfM_0_20 (x_at tdX12_isFull 1 rfl) wf_X12_307 ?_
  refine x_bipush (x_at tdX12_isFull 2 rfl) k_b_60 ?_
  refine x_ic_eq 18 (x_at tdX12_isFull 3 rfl) rfl (fun c => ?_) (fun c => ?_)
  · have H := H.1 c
    refine x_iconst (x_at tdX12_isFull 8 rfl) k_c_1 ?_
    refine x_goto 23 (x_at tdX12_isFull 9 rfl) rfl ?_
    exact x_ireturn (ty := .boolean) rfl zb1.1 (x_at tdX12_isFull 11 rfl) ⟨_, rfl, H⟩
  · have H := H.2 c
    refine x_aload_n (x_at tdX12_isFull 4 rfl) rfl rfl ?_
    refine gfM_0_22 (x_at tdX12_isFull 5 rfl) wf_X12_310 ?_
    refine x_bipush (x_at tdX12_isFull 6 rfl) k_b_30 ?_
    refine x_ic_ne 22 (x_at tdX12_isFull 7 rfl) rfl (fun c => ?_) (fun c => ?_)
    · have H := H.1 c
      refine x_iconst (x_at tdX12_isFull 10 rfl) k_c_0 ?_
      exact x_ireturn (ty := .boolean) rfl zb0.1 (x_at tdX12_isFull 11 rfl) ⟨_, rfl, H⟩
    · have H := H.2 c
      refine x_iconst (x_at tdX12_isFull 8 rfl) k_c_1 ?_
      refine x_goto 23 (x_at tdX12_isFull 9 rfl) rfl ?_
      exact x_ireturn (ty := .boolean) rfl zb1.1 (x_at tdX12_isFull 11 rfl) ⟨_, rfl, H⟩
theorem e_M_mayNot {h : xH} {d : Nat}  {S : xSt} {K : Int32 → xSt → Prop}  (H : (((S.1 0 19) = 0 → K 1 S) ∧ (¬ (S.1 0 19) = 0 → (vp_in ((S.1 0 19) - (1 : Int32)) 160 ∧ (((S.1 7 (((S.1 0 19) - (1 : Int32)) : Int32).toNatClampNeg) = 20 → K 1 S) ∧ (¬ (S.1 7 (((S.1 0 19) - (1 : Int32)) : Int32).toNatClampNeg) = 20 → (vp_in ((S.1 0 19) - (1 : Int32)) 160 ∧ M_M_tight h d (S.1 7 (((S.1 0 19) - (1 : Int32)) : Int32).toNatClampNeg) S (fun (r1 : Int32) (S1 : xSt) => ((4 ≤ r1 → K 0 S1) ∧ (¬ 4 ≤ r1 → K 1 S1)))))))))) : M_M_mayNot h d S K := by
  refine x_enter pn_X12 (Nat.le_of_ble_eq_true rfl) ?_
  show X (gM h) _ _ 0 [(0, .ref (x_ad (gM h) 0))] [] S _
  refine x_aload_n (x_at tdX12_mayNot 0 rfl) rfl rfl ?_
  refine gfM_0_19 (x_at tdX12_mayNot 1 rfl) wf_X12_294 ?_
  refine x_if_eq 41 (x_at tdX12_mayNot 2 rfl) rfl (fun c => ?_) (fun c => ?_)
  · have H := H.1 c
    refine x_iconst (x_at tdX12_mayNot 22 rfl) k_c_1 ?_
    refine x_goto 46 (x_at tdX12_mayNot 23 rfl) rfl ?_
    exact x_ireturn (ty := .boolean) rfl zb1.1 (x_at tdX12_mayNot 25 rfl) ⟨_, rfl, H⟩
  · have H := H.2 c
    refine x_aload_n (x_at tdX12_mayNot 3 rfl) rfl rfl ?_
    refine gfM_0_15 (x_at tdX12_mayNot 4 rfl) wf_X12_33 ?_
    refine x_aload_n (x_at tdX12_mayNot 5 rfl) rfl rfl ?_
    refine gfM_0_19 (x_at tdX12_mayNot 6 rfl) wf_X12_294 ?_
    refine x_iconst (x_at tdX12_mayNot 7 rfl) k_c_1 ?_
    refine x_isub (x_at tdX12_mayNot 8 rfl) ?_
    refine x_iald (lM_7 h) (x_at tdX12_mayNot 9 rfl) H.1 ?_
    have H := H.2
    refine x_bipush (x_at tdX12_mayNot 10 rfl) k_b_20 ?_
    refine x_ic_eq 41 (x_at tdX12_mayNot 11 rfl) rfl (fun c => ?_) (fun c => ?_)
    · have H := H.1 c
      refine x_iconst (x_at tdX12_mayNot 22 rfl) k_c_1 ?_
      refine x_goto 46 (x_at tdX12_mayNot 23 rfl) rfl ?_
      exact x_ireturn (ty := .boolean) rfl zb1.1 (x_at tdX12_mayNot 25 rfl) ⟨_, rfl, H⟩
    · have H := H.2 c
      refine x_aload_n (x_at tdX12_mayNot 12 rfl) rfl rfl ?_
      refine gfM_0_15 (x_at tdX12_mayNot 13 rfl) wf_X12_33 ?_
      refine x_aload_n (x_at tdX12_mayNot 14 rfl) rfl rfl ?_
      refine gfM_0_19 (x_at tdX12_mayNot 15 rfl) wf_X12_294 ?_
      refine x_iconst (x_at tdX12_mayNot 16 rfl) k_c_1 ?_
      refine x_isub (x_at tdX12_mayNot 17 rfl) ?_
      refine x_iald (lM_7 h) (x_at tdX12_mayNot 18 rfl) H.1 ?_
      have H := H.2
      refine x_cSi (as := [.int (S.1 7 (((S.1 0 19) - (1 : Int32)) : Int32).toNatClampNeg)]) (rest := []) mi_X12_tight (x_at tdX12_mayNot 19 rfl) wm_X12_297 rfl (Nat.le_of_ble_eq_true rfl) rfl H (fun r1 S1 H => ?_)
      refine x_iconst (x_at tdX12_mayNot 20 rfl) k_c_4 ?_
      refine x_ic_ge 45 (x_at tdX12_mayNot 21 rfl) rfl (fun c => ?_) (fun c => ?_)
      · have H := H.1 c
        refine x_iconst (x_at tdX12_mayNot 24 rfl) k_c_0 ?_
        exact x_ireturn (ty := .boolean) rfl zb0.1 (x_at tdX12_mayNot 25 rfl) ⟨_, rfl, H⟩
      · have H := H.2 c
        refine x_iconst (x_at tdX12_mayNot 22 rfl) k_c_1 ?_
        refine x_goto 46 (x_at tdX12_mayNot 23 rfl) rfl ?_
        exact x_ireturn (ty := .boolean) rfl zb1.1 (x_at tdX12_mayNot 25 rfl) ⟨_, rfl, H⟩
theorem e_M_openUp {h : xH} {d : Nat} {x1 : Int32} {S : xSt} {K : xSt → Prop}  (H : (vp_in (S.1 0 19) 160 ∧ ((¬ (S.1 0 2) = 0 → K (x_putI (x_putI (x_putI S 7 ((S.1 0 19) : Int32).toNatClampNeg x1) 0 19 ((S.1 0 19) + (1 : Int32))) 0 23 ((S.1 0 23) + (1 : Int32)))) ∧ ((S.1 0 2) = 0 → M_M_token h d (x_putI (x_putI (x_putI S 7 ((S.1 0 19) : Int32).toNatClampNeg x1) 0 19 ((S.1 0 19) + (1 : Int32))) 0 23 ((S.1 0 23) + (1 : Int32))) (fun (S1 : xSt) => K S1))))) : M_M_openUp h d x1 S K := by
  refine x_enter pn_X12 (Nat.le_of_ble_eq_true rfl) ?_
  show X (gM h) _ _ 0 [(0, .ref (x_ad (gM h) 0)), (1, .int x1)] [] S _
  refine x_aload_n (x_at tdX12_openUp 0 rfl) rfl rfl ?_
  refine gfM_0_15 (x_at tdX12_openUp 1 rfl) wf_X12_33 ?_
  refine x_aload_n (x_at tdX12_openUp 2 rfl) rfl rfl ?_
  refine gfM_0_19 (x_at tdX12_openUp 3 rfl) wf_X12_294 ?_
  refine x_iload_n (x_at tdX12_openUp 4 rfl) rfl rfl ?_
  refine x_iast (lM_7 h) (x_at tdX12_openUp 5 rfl) H.1 ?_
  have H := H.2
  refine x_aload_n (x_at tdX12_openUp 6 rfl) rfl rfl ?_
  refine x_dup (x_at tdX12_openUp 7 rfl) rfl ?_
  refine gfM_0_19 (x_at tdX12_openUp 8 rfl) wf_X12_294 ?_
  refine x_top (v := (S.1 0 19)) rfl ?_
  refine x_iconst (x_at tdX12_openUp 9 rfl) k_c_1 ?_
  refine x_iadd (x_at tdX12_openUp 10 rfl) ?_
  refine pfM_0_19 (x_at tdX12_openUp 11 rfl) wf_X12_294 ?_
  refine x_aload_n (x_at tdX12_openUp 12 rfl) rfl rfl ?_
  refine x_dup (x_at tdX12_openUp 13 rfl) rfl ?_
  refine gfM_0_23 (x_at tdX12_openUp 14 rfl) wf_X12_304 ?_
  refine x_top (v := (S.1 0 23)) rfl ?_
  refine x_iconst (x_at tdX12_openUp 15 rfl) k_c_1 ?_
  refine x_iadd (x_at tdX12_openUp 16 rfl) ?_
  refine pfM_0_23 (x_at tdX12_openUp 17 rfl) wf_X12_304 ?_
  refine x_aload_n (x_at tdX12_openUp 18 rfl) rfl rfl ?_
  refine gfM_0_2 (x_at tdX12_openUp 19 rfl) wf_X12_212 ?_
  refine x_top (v := (S.1 0 2)) rfl ?_
  refine x_if_ne 41 (x_at tdX12_openUp 20 rfl) rfl (fun c => ?_) (fun c => ?_)
  · have H := H.1 c
    exact x_return rfl (x_at tdX12_openUp 23 rfl) ⟨rfl, H⟩
  · have H := H.2 c
    refine x_aload_n (x_at tdX12_openUp 21 rfl) rfl rfl ?_
    refine x_cVv (as := []) (rest := []) mi_X12_token vc_12 (lM_0 h) (x_at tdX12_openUp 22 rfl) wm_X12_270 rfl (Nat.le_of_ble_eq_true rfl) rfl H (fun S1 H => ?_)
    exact x_return rfl (x_at tdX12_openUp 23 rfl) ⟨rfl, H⟩
theorem e_M_unit {h : xH} {d : Nat}  {S : xSt} {K : xSt → Prop}  (H : B_M_unit_2 h d 1 S K) : M_M_unit h d S K := by
  refine x_enter pn_X12 (Nat.le_of_ble_eq_true rfl) ?_
  show X (gM h) _ _ 0 [(0, .ref (x_ad (gM h) 0))] [] S _
  refine x_iconst (x_at tdX12_unit 0 rfl) k_c_1 ?_
  refine x_istore_n (x_at tdX12_unit 1 rfl) rfl (by decide) ?_
  refine x_weak (lv' := [(0, .ref (x_ad (gM h) 0)), (1, .int 1)]) ⟨rfl, rfl, trivial⟩ ?_
  exact H
theorem b_M_unit_2 {h : xH} {d : Nat}  {x1 : Int32} {S : xSt} {K : xSt → Prop}  (H : ((x1 = 0 → B_M_unit_101 h d S K) ∧ (¬ x1 = 0 → ((¬ (S.1 0 2) = 0 → B_M_unit_101 h d S K) ∧ ((S.1 0 2) = 0 → M_M_isWord h (d + 2) 7237492 S (fun (r1 : Int32) (S1 : xSt) => ((r1 = 0 → B_M_unit_53 h d x1 S1 K) ∧ (¬ r1 = 0 → M_M_mayNot h (d + 1) S1 (fun (r2 : Int32) (S2 : xSt) => ((r2 = 0 → B_M_unit_53 h d x1 S2 K) ∧ (¬ r2 = 0 → (((S2.1 0 23) ≤ 6 → B_M_unit_44 h d x1 S2 K) ∧ (¬ (S2.1 0 23) ≤ 6 → M_M_wrong h (d + 2) 2 S2 (fun (S3 : xSt) => B_M_unit_44 h d x1 S3 K)))))))))))))) : B_M_unit_2 h d x1 S K := by
  unfold B_M_unit_2
  refine x_iload_n (x_at tdX12_unit 2 rfl) rfl rfl ?_
  refine x_if_eq 101 (x_at tdX12_unit 3 rfl) rfl (fun c => ?_) (fun c => ?_)
  · have H := H.1 c
    refine x_weak (lv' := [(0, .ref (x_ad (gM h) 0))]) ⟨rfl, trivial⟩ ?_
    exact H
  · have H := H.2 c
    refine x_aload_n (x_at tdX12_unit 4 rfl) rfl rfl ?_
    refine gfM_0_2 (x_at tdX12_unit 5 rfl) wf_X12_212 ?_
    refine x_if_ne 101 (x_at tdX12_unit 6 rfl) rfl (fun c => ?_) (fun c => ?_)
    · have H := H.1 c
      refine x_weak (lv' := [(0, .ref (x_ad (gM h) 0))]) ⟨rfl, trivial⟩ ?_
      exact H
    · have H := H.2 c
      refine x_aload_n (x_at tdX12_unit 7 rfl) rfl rfl ?_
      refine x_ldc2 (x_at tdX12_unit 8 rfl) wk_X12_257 ?_
      refine x_cVi (as := [.long 7237492]) (rest := []) mi_X12_isWord vc_12 (lM_0 h) (x_at tdX12_unit 9 rfl) wm_X12_263 rfl (Nat.le_of_ble_eq_true rfl) rfl H (fun r1 S1 H => ?_)
      refine x_if_eq 53 (x_at tdX12_unit 10 rfl) rfl (fun c => ?_) (fun c => ?_)
      · have H := H.1 c
        refine x_weak (lv' := [(0, .ref (x_ad (gM h) 0)), (1, .int x1)]) ⟨rfl, rfl, trivial⟩ ?_
        exact H
      · have H := H.2 c
        refine x_aload_n (x_at tdX12_unit 11 rfl) rfl rfl ?_
        refine x_cVi (as := []) (rest := []) mi_X12_mayNot vc_12 (lM_0 h) (x_at tdX12_unit 12 rfl) wm_X12_313 rfl (Nat.le_of_ble_eq_true rfl) rfl H (fun r2 S2 H => ?_)
        refine x_if_eq 53 (x_at tdX12_unit 13 rfl) rfl (fun c => ?_) (fun c => ?_)
        · have H := H.1 c
          refine x_weak (lv' := [(0, .ref (x_ad (gM h) 0)), (1, .int x1)]) ⟨rfl, rfl, trivial⟩ ?_
          exact H
        · have H := H.2 c
          refine x_aload_n (x_at tdX12_unit 14 rfl) rfl rfl ?_
          refine gfM_0_23 (x_at tdX12_unit 15 rfl) wf_X12_304 ?_
          refine x_bipush (x_at tdX12_unit 16 rfl) k_b_6 ?_
          refine x_ic_le 44 (x_at tdX12_unit 17 rfl) rfl (fun c => ?_) (fun c => ?_)
          · have H := H.1 c
            refine x_weak (lv' := [(0, .ref (x_ad (gM h) 0)), (1, .int x1)]) ⟨rfl, rfl, trivial⟩ ?_
            exact H
          · have H := H.2 c
            refine x_aload_n (x_at tdX12_unit 18 rfl) rfl rfl ?_
            refine x_iconst (x_at tdX12_unit 19 rfl) k_c_2 ?_
            refine x_cVv (as := [.int 2]) (rest := []) mi_X12_wrong vc_12 (lM_0 h) (x_at tdX12_unit 20 rfl) wm_X12_267 rfl (Nat.le_of_ble_eq_true rfl) rfl H (fun S3 H => ?_)
            refine x_weak (lv' := [(0, .ref (x_ad (gM h) 0)), (1, .int x1)]) ⟨rfl, rfl, trivial⟩ ?_
            exact H
theorem b_M_unit_44 {h : xH} {d : Nat}  {x1 : Int32} {S : xSt} {K : xSt → Prop}  (H : M_M_openUp h d 21 S (fun (S1 : xSt) => B_M_unit_2 h d x1 S1 K)) : B_M_unit_44 h d x1 S K := by
  unfold B_M_unit_44
  refine x_aload_n (x_at tdX12_unit 21 rfl) rfl rfl ?_
  refine x_bipush (x_at tdX12_unit 22 rfl) k_b_21 ?_
  refine x_cVv (as := [.int 21]) (rest := []) mi_X12_openUp vc_12 (lM_0 h) (x_at tdX12_unit 23 rfl) wm_X12_316 rfl (Nat.le_of_ble_eq_true rfl) rfl H (fun S1 H => ?_)
  refine x_goto 2 (x_at tdX12_unit 24 rfl) rfl ?_
  refine x_weak (lv' := [(0, .ref (x_ad (gM h) 0)), (1, .int x1)]) ⟨rfl, rfl, trivial⟩ ?_
  exact H
theorem b_M_unit_53 {h : xH} {d : Nat}  {x1 : Int32} {S : xSt} {K : xSt → Prop}  (H : ((¬ (S.1 0 6) = 40 → B_M_unit_2 h d 0 S K) ∧ ((S.1 0 6) = 40 → M_M_isFull h (d + 2) S (fun (r1 : Int32) (S1 : xSt) => ((¬ r1 = 0 → B_M_unit_78 h d x1 S1 K) ∧ (r1 = 0 → (((S1.1 0 23) ≤ 6 → B_M_unit_83 h d x1 S1 K) ∧ (¬ (S1.1 0 23) ≤ 6 → B_M_unit_78 h d x1 S1 K)))))))) : B_M_unit_53 h d x1 S K := by
  unfold B_M_unit_53
  refine x_aload_n (x_at tdX12_unit 25 rfl) rfl rfl ?_
  refine gfM_0_6 (x_at tdX12_unit 26 rfl) wf_X12_199 ?_
  refine x_bipush (x_at tdX12_unit 27 rfl) k_b_40 ?_
  refine x_ic_ne 96 (x_at tdX12_unit 28 rfl) rfl (fun c => ?_) (fun c => ?_)
  · have H := H.1 c
    refine x_iconst (x_at tdX12_unit 45 rfl) k_c_0 ?_
    refine x_istore_n (x_at tdX12_unit 46 rfl) rfl (by decide) ?_
    refine x_goto 2 (x_at tdX12_unit 47 rfl) rfl ?_
    refine x_weak (lv' := [(0, .ref (x_ad (gM h) 0)), (1, .int 0)]) ⟨rfl, rfl, trivial⟩ ?_
    exact H
  · have H := H.2 c
    refine x_aload_n (x_at tdX12_unit 29 rfl) rfl rfl ?_
    refine x_cVi (as := []) (rest := []) mi_X12_isFull vc_12 (lM_0 h) (x_at tdX12_unit 30 rfl) wm_X12_319 rfl (Nat.le_of_ble_eq_true rfl) rfl H (fun r1 S1 H => ?_)
    refine x_if_ne 78 (x_at tdX12_unit 31 rfl) rfl (fun c => ?_) (fun c => ?_)
    · have H := H.1 c
      refine x_weak (lv' := [(0, .ref (x_ad (gM h) 0)), (1, .int x1)]) ⟨rfl, rfl, trivial⟩ ?_
      exact H
    · have H := H.2 c
      refine x_aload_n (x_at tdX12_unit 32 rfl) rfl rfl ?_
      refine gfM_0_23 (x_at tdX12_unit 33 rfl) wf_X12_304 ?_
      refine x_bipush (x_at tdX12_unit 34 rfl) k_b_6 ?_
      refine x_ic_le 83 (x_at tdX12_unit 35 rfl) rfl (fun c => ?_) (fun c => ?_)
      · have H := H.1 c
        refine x_weak (lv' := [(0, .ref (x_ad (gM h) 0)), (1, .int x1)]) ⟨rfl, rfl, trivial⟩ ?_
        exact H
      · have H := H.2 c
        refine x_weak (lv' := [(0, .ref (x_ad (gM h) 0)), (1, .int x1)]) ⟨rfl, rfl, trivial⟩ ?_
        exact H
theorem b_M_unit_78 {h : xH} {d : Nat}  {x1 : Int32} {S : xSt} {K : xSt → Prop}  (H : M_M_wrong h (d + 2) 2 S (fun (S1 : xSt) => B_M_unit_83 h d x1 S1 K)) : B_M_unit_78 h d x1 S K := by
  unfold B_M_unit_78
  refine x_aload_n (x_at tdX12_unit 36 rfl) rfl rfl ?_
  refine x_iconst (x_at tdX12_unit 37 rfl) k_c_2 ?_
  refine x_cVv (as := [.int 2]) (rest := []) mi_X12_wrong vc_12 (lM_0 h) (x_at tdX12_unit 38 rfl) wm_X12_267 rfl (Nat.le_of_ble_eq_true rfl) rfl H (fun S1 H => ?_)
  refine x_weak (lv' := [(0, .ref (x_ad (gM h) 0)), (1, .int x1)]) ⟨rfl, rfl, trivial⟩ ?_
  exact H
theorem b_M_unit_83 {h : xH} {d : Nat}  {x1 : Int32} {S : xSt} {K : xSt → Prop}  (H : M_M_countUnit h (d + 2) S (fun (S1 : xSt) => M_M_openUp h d 20 S1 (fun (S2 : xSt) => B_M_unit_2 h d x1 S2 K))) : B_M_unit_83 h d x1 S K := by
  unfold B_M_unit_83
  refine x_aload_n (x_at tdX12_unit 39 rfl) rfl rfl ?_
  refine x_cVv (as := []) (rest := []) mi_X12_countUnit vc_12 (lM_0 h) (x_at tdX12_unit 40 rfl) wm_X12_322 rfl (Nat.le_of_ble_eq_true rfl) rfl H (fun S1 H => ?_)
  refine x_aload_n (x_at tdX12_unit 41 rfl) rfl rfl ?_
  refine x_bipush (x_at tdX12_unit 42 rfl) k_b_20 ?_
  refine x_cVv (as := [.int 20]) (rest := []) mi_X12_openUp vc_12 (lM_0 h) (x_at tdX12_unit 43 rfl) wm_X12_316 rfl (Nat.le_of_ble_eq_true rfl) rfl H (fun S2 H => ?_)
  refine x_goto 2 (x_at tdX12_unit 44 rfl) rfl ?_
  refine x_weak (lv' := [(0, .ref (x_ad (gM h) 0)), (1, .int x1)]) ⟨rfl, rfl, trivial⟩ ?_
  exact H
theorem b_M_unit_101 {h : xH} {d : Nat}   {S : xSt} {K : xSt → Prop}  (H : (((S.1 0 2) ≤ 0 → M_M_asked h (d + 2) S (fun (r1 : Int32) (S1 : xSt) => (((S1.1 0 6) = 2 → B_M_unit_126 h d r1 S1 K) ∧ (¬ (S1.1 0 6) = 2 → ((r1 < 0 → B_M_unit_133 h d r1 S1 K) ∧ (¬ r1 < 0 → B_M_unit_126 h d r1 S1 K)))))) ∧ (¬ (S.1 0 2) ≤ 0 → K S))) : B_M_unit_101 h d S K := by
  unfold B_M_unit_101
  refine x_aload_n (x_at tdX12_unit 48 rfl) rfl rfl ?_
  refine gfM_0_2 (x_at tdX12_unit 49 rfl) wf_X12_212 ?_
  refine x_if_le 109 (x_at tdX12_unit 50 rfl) rfl (fun c => ?_) (fun c => ?_)
  · have H := H.1 c
    refine x_aload_n (x_at tdX12_unit 52 rfl) rfl rfl ?_
    refine x_cVi (as := []) (rest := []) mi_X12_asked vc_12 (lM_0 h) (x_at tdX12_unit 53 rfl) wm_X12_325 rfl (Nat.le_of_ble_eq_true rfl) rfl H (fun r1 S1 H => ?_)
    refine x_istore_n (x_at tdX12_unit 54 rfl) rfl (by decide) ?_
    refine x_aload_n (x_at tdX12_unit 55 rfl) rfl rfl ?_
    refine gfM_0_6 (x_at tdX12_unit 56 rfl) wf_X12_199 ?_
    refine x_iconst (x_at tdX12_unit 57 rfl) k_c_2 ?_
    refine x_ic_eq 126 (x_at tdX12_unit 58 rfl) rfl (fun c => ?_) (fun c => ?_)
    · have H := H.1 c
      refine x_weak (lv' := [(0, .ref (x_ad (gM h) 0)), (2, .int r1)]) ⟨rfl, rfl, trivial⟩ ?_
      exact H
    · have H := H.2 c
      refine x_iload_n (x_at tdX12_unit 59 rfl) rfl rfl ?_
      refine x_if_lt 133 (x_at tdX12_unit 60 rfl) rfl (fun c => ?_) (fun c => ?_)
      · have H := H.1 c
        refine x_weak (lv' := [(0, .ref (x_ad (gM h) 0)), (2, .int r1)]) ⟨rfl, rfl, trivial⟩ ?_
        exact H
      · have H := H.2 c
        refine x_weak (lv' := [(0, .ref (x_ad (gM h) 0)), (2, .int r1)]) ⟨rfl, rfl, trivial⟩ ?_
        exact H
  · have H := H.2 c
    exact x_return rfl (x_at tdX12_unit 51 rfl) ⟨rfl, H⟩
theorem b_M_unit_126 {h : xH} {d : Nat}  {x2 : Int32} {S : xSt} {K : xSt → Prop}  (H : M_M_isFull h (d + 2) S (fun (r1 : Int32) (S1 : xSt) => ((r1 = 0 → B_M_unit_138 h d x2 S1 K) ∧ (¬ r1 = 0 → B_M_unit_133 h d x2 S1 K)))) : B_M_unit_126 h d x2 S K := by
  unfold B_M_unit_126
  refine x_aload_n (x_at tdX12_unit 61 rfl) rfl rfl ?_
  refine x_cVi (as := []) (rest := []) mi_X12_isFull vc_12 (lM_0 h) (x_at tdX12_unit 62 rfl) wm_X12_319 rfl (Nat.le_of_ble_eq_true rfl) rfl H (fun r1 S1 H => ?_)
  refine x_if_eq 138 (x_at tdX12_unit 63 rfl) rfl (fun c => ?_) (fun c => ?_)
  · have H := H.1 c
    refine x_weak (lv' := [(0, .ref (x_ad (gM h) 0)), (2, .int x2)]) ⟨rfl, rfl, trivial⟩ ?_
    exact H
  · have H := H.2 c
    refine x_weak (lv' := [(0, .ref (x_ad (gM h) 0)), (2, .int x2)]) ⟨rfl, rfl, trivial⟩ ?_
    exact H
theorem b_M_unit_133 {h : xH} {d : Nat}  {x2 : Int32} {S : xSt} {K : xSt → Prop}  (H : M_M_wrong h (d + 2) 2 S (fun (S1 : xSt) => B_M_unit_138 h d x2 S1 K)) : B_M_unit_133 h d x2 S K := by
  unfold B_M_unit_133
  refine x_aload_n (x_at tdX12_unit 64 rfl) rfl rfl ?_
  refine x_iconst (x_at tdX12_unit 65 rfl) k_c_2 ?_
  refine x_cVv (as := [.int 2]) (rest := []) mi_X12_wrong vc_12 (lM_0 h) (x_at tdX12_unit 66 rfl) wm_X12_267 rfl (Nat.le_of_ble_eq_true rfl) rfl H (fun S1 H => ?_)
  refine x_weak (lv' := [(0, .ref (x_ad (gM h) 0)), (2, .int x2)]) ⟨rfl, rfl, trivial⟩ ?_
  exact H
theorem b_M_unit_138 {h : xH} {d : Nat}  {x2 : Int32} {S : xSt} {K : xSt → Prop}  (H : (((S.1 0 2) ≤ 0 → M_M_countUnit h (d + 2) S (fun (S1 : xSt) => ((0 ≤ x2 → B_M_unit_160 h d x2 1 S1 K) ∧ (¬ 0 ≤ x2 → B_M_unit_160 h d x2 0 S1 K)))) ∧ (¬ (S.1 0 2) ≤ 0 → K S))) : B_M_unit_138 h d x2 S K := by
  unfold B_M_unit_138
  refine x_aload_n (x_at tdX12_unit 67 rfl) rfl rfl ?_
  refine gfM_0_2 (x_at tdX12_unit 68 rfl) wf_X12_212 ?_
  refine x_if_le 146 (x_at tdX12_unit 69 rfl) rfl (fun c => ?_) (fun c => ?_)
  · have H := H.1 c
    refine x_aload_n (x_at tdX12_unit 71 rfl) rfl rfl ?_
    refine x_cVv (as := []) (rest := []) mi_X12_countUnit vc_12 (lM_0 h) (x_at tdX12_unit 72 rfl) wm_X12_322 rfl (Nat.le_of_ble_eq_true rfl) rfl H (fun S1 H => ?_)
    refine x_aload_n (x_at tdX12_unit 73 rfl) rfl rfl ?_
    refine x_iload_n (x_at tdX12_unit 74 rfl) rfl rfl ?_
    refine x_if_ge 159 (x_at tdX12_unit 75 rfl) rfl (fun c => ?_) (fun c => ?_)
    · have H := H.1 c
      refine x_iconst (x_at tdX12_unit 78 rfl) k_c_1 ?_
      refine x_weak (lv' := [(0, .ref (x_ad (gM h) 0)), (2, .int x2)]) ⟨rfl, rfl, trivial⟩ ?_
      exact H
    · have H := H.2 c
      refine x_iconst (x_at tdX12_unit 76 rfl) k_c_0 ?_
      refine x_goto 160 (x_at tdX12_unit 77 rfl) rfl ?_
      refine x_weak (lv' := [(0, .ref (x_ad (gM h) 0)), (2, .int x2)]) ⟨rfl, rfl, trivial⟩ ?_
      exact H
  · have H := H.2 c
    exact x_return rfl (x_at tdX12_unit 70 rfl) ⟨rfl, H⟩
theorem b_M_unit_160 {h : xH} {d : Nat}  {x2 : Int32} {s0 : Int32} {S : xSt} {K : xSt → Prop}  (H : ((0 ≤ x2 → M_M_add h (d + 2) s0 x2 S (fun (S1 : xSt) => M_M_token h (d + 1) S1 (fun (S2 : xSt) => K S2))) ∧ (¬ 0 ≤ x2 → M_M_add h (d + 2) s0 (S.1 0 8) S (fun (S3 : xSt) => M_M_token h (d + 1) S3 (fun (S4 : xSt) => K S4))))) : B_M_unit_160 h d x2 s0 S K := by
  unfold B_M_unit_160
  refine x_iload_n (x_at tdX12_unit 79 rfl) rfl rfl ?_
  refine x_if_ge 171 (x_at tdX12_unit 80 rfl) rfl (fun c => ?_) (fun c => ?_)
  · have H := H.1 c
    refine x_iload_n (x_at tdX12_unit 84 rfl) rfl rfl ?_
    refine x_cVv (as := [.int s0, .int x2]) (rest := []) mi_X12_add vc_12 (lM_0 h) (x_at tdX12_unit 85 rfl) wm_X12_300 rfl (Nat.le_of_ble_eq_true rfl) rfl H (fun S1 H => ?_)
    refine x_aload_n (x_at tdX12_unit 86 rfl) rfl rfl ?_
    refine x_cVv (as := []) (rest := []) mi_X12_token vc_12 (lM_0 h) (x_at tdX12_unit 87 rfl) wm_X12_270 rfl (Nat.le_of_ble_eq_true rfl) rfl H (fun S2 H => ?_)
    exact x_return rfl (x_at tdX12_unit 88 rfl) ⟨rfl, H⟩
  · have H := H.2 c
    refine x_aload_n (x_at tdX12_unit 81 rfl) rfl rfl ?_
    refine gfM_0_8 (x_at tdX12_unit 82 rfl) wf_X12_196 ?_
    refine x_goto 172 (x_at tdX12_unit 83 rfl) rfl ?_
    refine x_cVv (as := [.int s0, .int (S.1 0 8)]) (rest := []) mi_X12_add vc_12 (lM_0 h) (x_at tdX12_unit 85 rfl) wm_X12_300 rfl (Nat.le_of_ble_eq_true rfl) rfl H (fun S3 H => ?_)
    refine x_aload_n (x_at tdX12_unit 86 rfl) rfl rfl ?_
    refine x_cVv (as := []) (rest := []) mi_X12_token vc_12 (lM_0 h) (x_at tdX12_unit 87 rfl) wm_X12_270 rfl (Nat.le_of_ble_eq_true rfl) rfl H (fun S4 H => ?_)
    exact x_return rfl (x_at tdX12_unit 88 rfl) ⟨rfl, H⟩
theorem e_M_readWear {h : xH} {d : Nat}  {S : xSt} {K : xSt → Prop}  (H : M_M_token h (d + 2) S (fun (S1 : xSt) => M_M_unit h d (x_putI (x_putI (x_putI (x_putI S1 0 17 0) 0 19 0) 0 23 0) 0 22 0) (fun (S2 : xSt) => B_M_readWear_30 h d 1 S2 K))) : M_M_readWear h d S K := by
  refine x_enter pn_X12 (Nat.le_of_ble_eq_true rfl) ?_
  show X (gM h) _ _ 0 [(0, .ref (x_ad (gM h) 0))] [] S _
  refine x_aload_n (x_at tdX12_readWear 0 rfl) rfl rfl ?_
  refine x_cVv (as := []) (rest := []) mi_X12_token vc_12 (lM_0 h) (x_at tdX12_readWear 1 rfl) wm_X12_270 rfl (Nat.le_of_ble_eq_true rfl) rfl H (fun S1 H => ?_)
  refine x_aload_n (x_at tdX12_readWear 2 rfl) rfl rfl ?_
  refine x_iconst (x_at tdX12_readWear 3 rfl) k_c_0 ?_
  refine pfM_0_17 (x_at tdX12_readWear 4 rfl) wf_X12_291 ?_
  refine x_aload_n (x_at tdX12_readWear 5 rfl) rfl rfl ?_
  refine x_iconst (x_at tdX12_readWear 6 rfl) k_c_0 ?_
  refine pfM_0_19 (x_at tdX12_readWear 7 rfl) wf_X12_294 ?_
  refine x_aload_n (x_at tdX12_readWear 8 rfl) rfl rfl ?_
  refine x_iconst (x_at tdX12_readWear 9 rfl) k_c_0 ?_
  refine pfM_0_23 (x_at tdX12_readWear 10 rfl) wf_X12_304 ?_
  refine x_aload_n (x_at tdX12_readWear 11 rfl) rfl rfl ?_
  refine x_iconst (x_at tdX12_readWear 12 rfl) k_c_0 ?_
  refine pfM_0_22 (x_at tdX12_readWear 13 rfl) wf_X12_310 ?_
  refine x_aload_n (x_at tdX12_readWear 14 rfl) rfl rfl ?_
  refine x_cVv (as := []) (rest := []) mi_X12_unit vc_12 (lM_0 h) (x_at tdX12_readWear 15 rfl) wm_X12_329 rfl (Nat.le_of_ble_eq_true rfl) rfl H (fun S2 H => ?_)
  refine x_iconst (x_at tdX12_readWear 16 rfl) k_c_1 ?_
  refine x_istore_n (x_at tdX12_readWear 17 rfl) rfl (by decide) ?_
  refine x_weak (lv' := [(0, .ref (x_ad (gM h) 0)), (1, .int 1)]) ⟨rfl, rfl, trivial⟩ ?_
  exact H
theorem b_M_readWear_30 {h : xH} {d : Nat}  {x1 : Int32} {S : xSt} {K : xSt → Prop}  (H : ((x1 = 0 → B_M_readWear_157 h d S K) ∧ (¬ x1 = 0 → ((¬ (S.1 0 2) = 0 → B_M_readWear_157 h d S K) ∧ ((S.1 0 2) = 0 → M_M_sign h (d + 2) S (fun (r1 : Int32) (S1 : xSt) => ((¬ (S1.1 0 6) = 41 → B_M_readWear_94 h d x1 r1 S1 K) ∧ ((S1.1 0 6) = 41 → M_M_hasBracket h (d + 3) S1 (fun (r2 : Int32) (S2 : xSt) => ((r2 = 0 → B_M_readWear_94 h d x1 r1 S2 K) ∧ (¬ r2 = 0 → M_M_close h (d + 2) 0 S2 (fun (S3 : xSt) => M_M_token h (d + 2) (x_putI (x_putI S3 0 19 ((S3.1 0 19) - (1 : Int32))) 0 23 ((S3.1 0 23) - (1 : Int32))) (fun (S4 : xSt) => B_M_readWear_154 h d x1 S4 K))))))))))))) : B_M_readWear_30 h d x1 S K := by
  unfold B_M_readWear_30
  refine x_iload_n (x_at tdX12_readWear 18 rfl) rfl rfl ?_
  refine x_if_eq 157 (x_at tdX12_readWear 19 rfl) rfl (fun c => ?_) (fun c => ?_)
  · have H := H.1 c
    refine x_weak (lv' := [(0, .ref (x_ad (gM h) 0))]) ⟨rfl, trivial⟩ ?_
    exact H
  · have H := H.2 c
    refine x_aload_n (x_at tdX12_readWear 20 rfl) rfl rfl ?_
    refine gfM_0_2 (x_at tdX12_readWear 21 rfl) wf_X12_212 ?_
    refine x_if_ne 157 (x_at tdX12_readWear 22 rfl) rfl (fun c => ?_) (fun c => ?_)
    · have H := H.1 c
      refine x_weak (lv' := [(0, .ref (x_ad (gM h) 0))]) ⟨rfl, trivial⟩ ?_
      exact H
    · have H := H.2 c
      refine x_aload_n (x_at tdX12_readWear 23 rfl) rfl rfl ?_
      refine x_cVi (as := []) (rest := []) mi_X12_sign vc_12 (lM_0 h) (x_at tdX12_readWear 24 rfl) wm_X12_332 rfl (Nat.le_of_ble_eq_true rfl) rfl H (fun r1 S1 H => ?_)
      refine x_istore_n (x_at tdX12_readWear 25 rfl) rfl (by decide) ?_
      refine x_aload_n (x_at tdX12_readWear 26 rfl) rfl rfl ?_
      refine gfM_0_6 (x_at tdX12_readWear 27 rfl) wf_X12_199 ?_
      refine x_bipush (x_at tdX12_readWear 28 rfl) k_b_41 ?_
      refine x_ic_ne 94 (x_at tdX12_readWear 29 rfl) rfl (fun c => ?_) (fun c => ?_)
      · have H := H.1 c
        refine x_weak (lv' := [(0, .ref (x_ad (gM h) 0)), (1, .int x1), (2, .int r1)]) ⟨rfl, rfl, rfl, trivial⟩ ?_
        exact H
      · have H := H.2 c
        refine x_aload_n (x_at tdX12_readWear 30 rfl) rfl rfl ?_
        refine x_cVi (as := []) (rest := []) mi_X12_hasBracket vc_12 (lM_0 h) (x_at tdX12_readWear 31 rfl) wm_X12_335 rfl (Nat.le_of_ble_eq_true rfl) rfl H (fun r2 S2 H => ?_)
        refine x_if_eq 94 (x_at tdX12_readWear 32 rfl) rfl (fun c => ?_) (fun c => ?_)
        · have H := H.1 c
          refine x_weak (lv' := [(0, .ref (x_ad (gM h) 0)), (1, .int x1), (2, .int r1)]) ⟨rfl, rfl, rfl, trivial⟩ ?_
          exact H
        · have H := H.2 c
          refine x_aload_n (x_at tdX12_readWear 33 rfl) rfl rfl ?_
          refine x_iconst (x_at tdX12_readWear 34 rfl) k_c_0 ?_
          refine x_cVv (as := [.int 0]) (rest := []) mi_X12_close vc_12 (lM_0 h) (x_at tdX12_readWear 35 rfl) wm_X12_338 rfl (Nat.le_of_ble_eq_true rfl) rfl H (fun S3 H => ?_)
          refine x_aload_n (x_at tdX12_readWear 36 rfl) rfl rfl ?_
          refine x_dup (x_at tdX12_readWear 37 rfl) rfl ?_
          refine gfM_0_19 (x_at tdX12_readWear 38 rfl) wf_X12_294 ?_
          refine x_iconst (x_at tdX12_readWear 39 rfl) k_c_1 ?_
          refine x_isub (x_at tdX12_readWear 40 rfl) ?_
          refine pfM_0_19 (x_at tdX12_readWear 41 rfl) wf_X12_294 ?_
          refine x_aload_n (x_at tdX12_readWear 42 rfl) rfl rfl ?_
          refine x_dup (x_at tdX12_readWear 43 rfl) rfl ?_
          refine gfM_0_23 (x_at tdX12_readWear 44 rfl) wf_X12_304 ?_
          refine x_top (v := (S3.1 0 23)) rfl ?_
          refine x_iconst (x_at tdX12_readWear 45 rfl) k_c_1 ?_
          refine x_isub (x_at tdX12_readWear 46 rfl) ?_
          refine pfM_0_23 (x_at tdX12_readWear 47 rfl) wf_X12_304 ?_
          refine x_aload_n (x_at tdX12_readWear 48 rfl) rfl rfl ?_
          refine x_cVv (as := []) (rest := []) mi_X12_token vc_12 (lM_0 h) (x_at tdX12_readWear 49 rfl) wm_X12_270 rfl (Nat.le_of_ble_eq_true rfl) rfl H (fun S4 H => ?_)
          refine x_goto 154 (x_at tdX12_readWear 50 rfl) rfl ?_
          refine x_weak (lv' := [(0, .ref (x_ad (gM h) 0)), (1, .int x1)]) ⟨rfl, rfl, trivial⟩ ?_
          exact H
theorem b_M_readWear_94 {h : xH} {d : Nat}  {x1 : Int32} {x2 : Int32} {S : xSt} {K : xSt → Prop}  (H : ((x2 = 0 → B_M_readWear_152 h d S K) ∧ (¬ x2 = 0 → M_M_tight h (d + 3) x2 S (fun (r1 : Int32) (S1 : xSt) => ((¬ r1 = 4 → B_M_readWear_113 h d x1 x2 S1 K) ∧ (r1 = 4 → M_M_hasRelation h (d + 2) S1 (fun (r2 : Int32) (S2 : xSt) => ((¬ r2 = 0 → B_M_readWear_152 h d S2 K) ∧ (r2 = 0 → B_M_readWear_113 h d x1 x2 S2 K))))))))) : B_M_readWear_94 h d x1 x2 S K := by
  unfold B_M_readWear_94
  refine x_iload_n (x_at tdX12_readWear 51 rfl) rfl rfl ?_
  refine x_if_eq 152 (x_at tdX12_readWear 52 rfl) rfl (fun c => ?_) (fun c => ?_)
  · have H := H.1 c
    refine x_weak (lv' := [(0, .ref (x_ad (gM h) 0))]) ⟨rfl, trivial⟩ ?_
    exact H
  · have H := H.2 c
    refine x_iload_n (x_at tdX12_readWear 53 rfl) rfl rfl ?_
    refine x_cSi (as := [.int x2]) (rest := []) mi_X12_tight (x_at tdX12_readWear 54 rfl) wm_X12_297 rfl (Nat.le_of_ble_eq_true rfl) rfl H (fun r1 S1 H => ?_)
    refine x_iconst (x_at tdX12_readWear 55 rfl) k_c_4 ?_
    refine x_ic_ne 113 (x_at tdX12_readWear 56 rfl) rfl (fun c => ?_) (fun c => ?_)
    · have H := H.1 c
      refine x_weak (lv' := [(0, .ref (x_ad (gM h) 0)), (1, .int x1), (2, .int x2)]) ⟨rfl, rfl, rfl, trivial⟩ ?_
      exact H
    · have H := H.2 c
      refine x_aload_n (x_at tdX12_readWear 57 rfl) rfl rfl ?_
      refine x_cVi (as := []) (rest := []) mi_X12_hasRelation vc_12 (lM_0 h) (x_at tdX12_readWear 58 rfl) wm_X12_341 rfl (Nat.le_of_ble_eq_true rfl) rfl H (fun r2 S2 H => ?_)
      refine x_if_ne 152 (x_at tdX12_readWear 59 rfl) rfl (fun c => ?_) (fun c => ?_)
      · have H := H.1 c
        refine x_weak (lv' := [(0, .ref (x_ad (gM h) 0))]) ⟨rfl, trivial⟩ ?_
        exact H
      · have H := H.2 c
        refine x_weak (lv' := [(0, .ref (x_ad (gM h) 0)), (1, .int x1), (2, .int x2)]) ⟨rfl, rfl, rfl, trivial⟩ ?_
        exact H
theorem b_M_readWear_113 {h : xH} {d : Nat}  {x1 : Int32} {x2 : Int32} {S : xSt} {K : xSt → Prop}  (H : M_M_tight h (d + 3) x2 S (fun (r1 : Int32) (S1 : xSt) => M_M_close h (d + 2) r1 S1 (fun (S2 : xSt) => (vp_in (S2.1 0 19) 160 ∧ M_M_token h (d + 2) (x_putI (x_putI S2 7 ((S2.1 0 19) : Int32).toNatClampNeg x2) 0 19 ((S2.1 0 19) + (1 : Int32))) (fun (S3 : xSt) => M_M_unit h d S3 (fun (S4 : xSt) => B_M_readWear_154 h d x1 S4 K)))))) : B_M_readWear_113 h d x1 x2 S K := by
  unfold B_M_readWear_113
  refine x_aload_n (x_at tdX12_readWear 60 rfl) rfl rfl ?_
  refine x_iload_n (x_at tdX12_readWear 61 rfl) rfl rfl ?_
  refine x_cSi (as := [.int x2]) (rest := [.ref (x_ad (gM h) 0)]) mi_X12_tight (x_at tdX12_readWear 62 rfl) wm_X12_297 rfl (Nat.le_of_ble_eq_true rfl) rfl H (fun r1 S1 H => ?_)
  refine x_cVv (as := [.int r1]) (rest := []) mi_X12_close vc_12 (lM_0 h) (x_at tdX12_readWear 63 rfl) wm_X12_338 rfl (Nat.le_of_ble_eq_true rfl) rfl H (fun S2 H => ?_)
  refine x_aload_n (x_at tdX12_readWear 64 rfl) rfl rfl ?_
  refine gfM_0_15 (x_at tdX12_readWear 65 rfl) wf_X12_33 ?_
  refine x_aload_n (x_at tdX12_readWear 66 rfl) rfl rfl ?_
  refine gfM_0_19 (x_at tdX12_readWear 67 rfl) wf_X12_294 ?_
  refine x_iload_n (x_at tdX12_readWear 68 rfl) rfl rfl ?_
  refine x_iast (lM_7 h) (x_at tdX12_readWear 69 rfl) H.1 ?_
  have H := H.2
  refine x_aload_n (x_at tdX12_readWear 70 rfl) rfl rfl ?_
  refine x_dup (x_at tdX12_readWear 71 rfl) rfl ?_
  refine gfM_0_19 (x_at tdX12_readWear 72 rfl) wf_X12_294 ?_
  refine x_top (v := (S2.1 0 19)) rfl ?_
  refine x_iconst (x_at tdX12_readWear 73 rfl) k_c_1 ?_
  refine x_iadd (x_at tdX12_readWear 74 rfl) ?_
  refine pfM_0_19 (x_at tdX12_readWear 75 rfl) wf_X12_294 ?_
  refine x_aload_n (x_at tdX12_readWear 76 rfl) rfl rfl ?_
  refine x_cVv (as := []) (rest := []) mi_X12_token vc_12 (lM_0 h) (x_at tdX12_readWear 77 rfl) wm_X12_270 rfl (Nat.le_of_ble_eq_true rfl) rfl H (fun S3 H => ?_)
  refine x_aload_n (x_at tdX12_readWear 78 rfl) rfl rfl ?_
  refine x_cVv (as := []) (rest := []) mi_X12_unit vc_12 (lM_0 h) (x_at tdX12_readWear 79 rfl) wm_X12_329 rfl (Nat.le_of_ble_eq_true rfl) rfl H (fun S4 H => ?_)
  refine x_goto 154 (x_at tdX12_readWear 80 rfl) rfl ?_
  refine x_weak (lv' := [(0, .ref (x_ad (gM h) 0)), (1, .int x1)]) ⟨rfl, rfl, trivial⟩ ?_
  exact H
theorem b_M_readWear_152 {h : xH} {d : Nat}   {S : xSt} {K : xSt → Prop}  (H : B_M_readWear_154 h d 0 S K) : B_M_readWear_152 h d S K := by
  unfold B_M_readWear_152
  refine x_iconst (x_at tdX12_readWear 81 rfl) k_c_0 ?_
  refine x_istore_n (x_at tdX12_readWear 82 rfl) rfl (by decide) ?_
  refine x_weak (lv' := [(0, .ref (x_ad (gM h) 0)), (1, .int 0)]) ⟨rfl, rfl, trivial⟩ ?_
  exact H
theorem b_M_readWear_154 {h : xH} {d : Nat}  {x1 : Int32} {S : xSt} {K : xSt → Prop}  (H : B_M_readWear_30 h d x1 S K) : B_M_readWear_154 h d x1 S K := by
  unfold B_M_readWear_154
  refine x_goto 30 (x_at tdX12_readWear 83 rfl) rfl ?_
  refine x_weak (lv' := [(0, .ref (x_ad (gM h) 0)), (1, .int x1)]) ⟨rfl, rfl, trivial⟩ ?_
  exact H
theorem b_M_readWear_157 {h : xH} {d : Nat}   {S : xSt} {K : xSt → Prop}  (H : ((¬ (S.1 0 2) = 0 → B_M_readWear_176 h d S K) ∧ ((S.1 0 2) = 0 → M_M_hasBracket h (d + 3) S (fun (r1 : Int32) (S1 : xSt) => ((r1 = 0 → B_M_readWear_176 h d S1 K) ∧ (¬ r1 = 0 → M_M_wrong h (d + 3) 2 S1 (fun (S2 : xSt) => B_M_readWear_176 h d S2 K))))))) : B_M_readWear_157 h d S K := by
  unfold B_M_readWear_157
  refine x_aload_n (x_at tdX12_readWear 84 rfl) rfl rfl ?_
  refine gfM_0_2 (x_at tdX12_readWear 85 rfl) wf_X12_212 ?_
  refine x_if_ne 176 (x_at tdX12_readWear 86 rfl) rfl (fun c => ?_) (fun c => ?_)
  · have H := H.1 c
    refine x_weak (lv' := [(0, .ref (x_ad (gM h) 0))]) ⟨rfl, trivial⟩ ?_
    exact H
  · have H := H.2 c
    refine x_aload_n (x_at tdX12_readWear 87 rfl) rfl rfl ?_
    refine x_cVi (as := []) (rest := []) mi_X12_hasBracket vc_12 (lM_0 h) (x_at tdX12_readWear 88 rfl) wm_X12_335 rfl (Nat.le_of_ble_eq_true rfl) rfl H (fun r1 S1 H => ?_)
    refine x_if_eq 176 (x_at tdX12_readWear 89 rfl) rfl (fun c => ?_) (fun c => ?_)
    · have H := H.1 c
      refine x_weak (lv' := [(0, .ref (x_ad (gM h) 0))]) ⟨rfl, trivial⟩ ?_
      exact H
    · have H := H.2 c
      refine x_aload_n (x_at tdX12_readWear 90 rfl) rfl rfl ?_
      refine x_iconst (x_at tdX12_readWear 91 rfl) k_c_2 ?_
      refine x_cVv (as := [.int 2]) (rest := []) mi_X12_wrong vc_12 (lM_0 h) (x_at tdX12_readWear 92 rfl) wm_X12_267 rfl (Nat.le_of_ble_eq_true rfl) rfl H (fun S2 H => ?_)
      refine x_weak (lv' := [(0, .ref (x_ad (gM h) 0))]) ⟨rfl, trivial⟩ ?_
      exact H
theorem b_M_readWear_176 {h : xH} {d : Nat}   {S : xSt} {K : xSt → Prop}  (H : ((¬ (S.1 0 2) = 0 → K S) ∧ ((S.1 0 2) = 0 → M_M_close h (d + 2) 0 S (fun (S1 : xSt) => K S1)))) : B_M_readWear_176 h d S K := by
  unfold B_M_readWear_176
  refine x_aload_n (x_at tdX12_readWear 93 rfl) rfl rfl ?_
  refine gfM_0_2 (x_at tdX12_readWear 94 rfl) wf_X12_212 ?_
  refine x_if_ne 188 (x_at tdX12_readWear 95 rfl) rfl (fun c => ?_) (fun c => ?_)
  · have H := H.1 c
    exact x_return rfl (x_at tdX12_readWear 99 rfl) ⟨rfl, H⟩
  · have H := H.2 c
    refine x_aload_n (x_at tdX12_readWear 96 rfl) rfl rfl ?_
    refine x_iconst (x_at tdX12_readWear 97 rfl) k_c_0 ?_
    refine x_cVv (as := [.int 0]) (rest := []) mi_X12_close vc_12 (lM_0 h) (x_at tdX12_readWear 98 rfl) wm_X12_338 rfl (Nat.le_of_ble_eq_true rfl) rfl H (fun S1 H => ?_)
    exact x_return rfl (x_at tdX12_readWear 99 rfl) ⟨rfl, H⟩
theorem e_M_readLine {h : xH} {d : Nat}  {S : xSt} {K : xSt → Prop}  (H : M_M_isWord h (d + 5) 7168366 S (fun (r1 : Int32) (S1 : xSt) => ((r1 = 0 → B_M_readLine_26 h d S1 K) ∧ (¬ r1 = 0 → ((6 ≤ (S1.1 0 49) → B_M_readLine_26 h d S1 K) ∧ (¬ 6 ≤ (S1.1 0 49) → M_M_readMan h d S1 (fun (S2 : xSt) => B_M_readLine_256 h d S2 K))))))) : M_M_readLine h d S K := by
  refine x_enter pn_X12 (Nat.le_of_ble_eq_true rfl) ?_
  show X (gM h) _ _ 0 [(0, .ref (x_ad (gM h) 0))] [] S _
  refine x_aload_n (x_at tdX12_readLine 0 rfl) rfl rfl ?_
  refine x_ldc2 (x_at tdX12_readLine 1 rfl) wk_X12_215 ?_
  refine x_cVi (as := [.long 7168366]) (rest := []) mi_X12_isWord vc_12 (lM_0 h) (x_at tdX12_readLine 2 rfl) wm_X12_263 rfl (Nat.le_of_ble_eq_true rfl) rfl H (fun r1 S1 H => ?_)
  refine x_if_eq 26 (x_at tdX12_readLine 3 rfl) rfl (fun c => ?_) (fun c => ?_)
  · have H := H.1 c
    refine x_weak (lv' := [(0, .ref (x_ad (gM h) 0))]) ⟨rfl, trivial⟩ ?_
    exact H
  · have H := H.2 c
    refine x_aload_n (x_at tdX12_readLine 4 rfl) rfl rfl ?_
    refine gfM_0_49 (x_at tdX12_readLine 5 rfl) wf_X12_359 ?_
    refine x_bipush (x_at tdX12_readLine 6 rfl) k_b_6 ?_
    refine x_ic_ge 26 (x_at tdX12_readLine 7 rfl) rfl (fun c => ?_) (fun c => ?_)
    · have H := H.1 c
      refine x_weak (lv' := [(0, .ref (x_ad (gM h) 0))]) ⟨rfl, trivial⟩ ?_
      exact H
    · have H := H.2 c
      refine x_aload_n (x_at tdX12_readLine 8 rfl) rfl rfl ?_
      refine x_cVv (as := []) (rest := []) mi_X12_readMan vc_12 (lM_0 h) (x_at tdX12_readLine 9 rfl) wm_X12_381 rfl (Nat.le_of_ble_eq_true rfl) rfl H (fun S2 H => ?_)
      refine x_goto 256 (x_at tdX12_readLine 10 rfl) rfl ?_
      refine x_weak (lv' := [(0, .ref (x_ad (gM h) 0))]) ⟨rfl, trivial⟩ ?_
      exact H
theorem b_M_readLine_26 {h : xH} {d : Nat}   {S : xSt} {K : xSt → Prop}  (H : M_M_isWord h (d + 5) 1684366692 S (fun (r1 : Int32) (S1 : xSt) => ((r1 = 0 → B_M_readLine_52 h d S1 K) ∧ (¬ r1 = 0 → ((6 ≤ (S1.1 0 50) → B_M_readLine_52 h d S1 K) ∧ (¬ 6 ≤ (S1.1 0 50) → M_M_readDeed h (d + 1) S1 (fun (S2 : xSt) => B_M_readLine_256 h d S2 K))))))) : B_M_readLine_26 h d S K := by
  unfold B_M_readLine_26
  refine x_aload_n (x_at tdX12_readLine 11 rfl) rfl rfl ?_
  refine x_ldc2 (x_at tdX12_readLine 12 rfl) wk_X12_223 ?_
  refine x_cVi (as := [.long 1684366692]) (rest := []) mi_X12_isWord vc_12 (lM_0 h) (x_at tdX12_readLine 13 rfl) wm_X12_263 rfl (Nat.le_of_ble_eq_true rfl) rfl H (fun r1 S1 H => ?_)
  refine x_if_eq 52 (x_at tdX12_readLine 14 rfl) rfl (fun c => ?_) (fun c => ?_)
  · have H := H.1 c
    refine x_weak (lv' := [(0, .ref (x_ad (gM h) 0))]) ⟨rfl, trivial⟩ ?_
    exact H
  · have H := H.2 c
    refine x_aload_n (x_at tdX12_readLine 15 rfl) rfl rfl ?_
    refine gfM_0_50 (x_at tdX12_readLine 16 rfl) wf_X12_369 ?_
    refine x_bipush (x_at tdX12_readLine 17 rfl) k_b_6 ?_
    refine x_ic_ge 52 (x_at tdX12_readLine 18 rfl) rfl (fun c => ?_) (fun c => ?_)
    · have H := H.1 c
      refine x_weak (lv' := [(0, .ref (x_ad (gM h) 0))]) ⟨rfl, trivial⟩ ?_
      exact H
    · have H := H.2 c
      refine x_aload_n (x_at tdX12_readLine 19 rfl) rfl rfl ?_
      refine x_cVv (as := []) (rest := []) mi_X12_readDeed vc_12 (lM_0 h) (x_at tdX12_readLine 20 rfl) wm_X12_384 rfl (Nat.le_of_ble_eq_true rfl) rfl H (fun S2 H => ?_)
      refine x_goto 256 (x_at tdX12_readLine 21 rfl) rfl ?_
      refine x_weak (lv' := [(0, .ref (x_ad (gM h) 0))]) ⟨rfl, trivial⟩ ?_
      exact H
theorem b_M_readLine_52 {h : xH} {d : Nat}   {S : xSt} {K : xSt → Prop}  (H : M_M_isWord h (d + 5) 108256604483438 S (fun (r1 : Int32) (S1 : xSt) => ((r1 = 0 → B_M_readLine_78 h d S1 K) ∧ (¬ r1 = 0 → ((10 ≤ (S1.1 0 51) → B_M_readLine_78 h d S1 K) ∧ (¬ 10 ≤ (S1.1 0 51) → M_M_readButton h d S1 (fun (S2 : xSt) => B_M_readLine_256 h d S2 K))))))) : B_M_readLine_52 h d S K := by
  unfold B_M_readLine_52
  refine x_aload_n (x_at tdX12_readLine 22 rfl) rfl rfl ?_
  refine x_ldc2 (x_at tdX12_readLine 23 rfl) wk_X12_227 ?_
  refine x_cVi (as := [.long 108256604483438]) (rest := []) mi_X12_isWord vc_12 (lM_0 h) (x_at tdX12_readLine 24 rfl) wm_X12_263 rfl (Nat.le_of_ble_eq_true rfl) rfl H (fun r1 S1 H => ?_)
  refine x_if_eq 78 (x_at tdX12_readLine 25 rfl) rfl (fun c => ?_) (fun c => ?_)
  · have H := H.1 c
    refine x_weak (lv' := [(0, .ref (x_ad (gM h) 0))]) ⟨rfl, trivial⟩ ?_
    exact H
  · have H := H.2 c
    refine x_aload_n (x_at tdX12_readLine 26 rfl) rfl rfl ?_
    refine gfM_0_51 (x_at tdX12_readLine 27 rfl) wf_X12_372 ?_
    refine x_bipush (x_at tdX12_readLine 28 rfl) k_b_10 ?_
    refine x_ic_ge 78 (x_at tdX12_readLine 29 rfl) rfl (fun c => ?_) (fun c => ?_)
    · have H := H.1 c
      refine x_weak (lv' := [(0, .ref (x_ad (gM h) 0))]) ⟨rfl, trivial⟩ ?_
      exact H
    · have H := H.2 c
      refine x_aload_n (x_at tdX12_readLine 30 rfl) rfl rfl ?_
      refine x_cVv (as := []) (rest := []) mi_X12_readButton vc_12 (lM_0 h) (x_at tdX12_readLine 31 rfl) wm_X12_387 rfl (Nat.le_of_ble_eq_true rfl) rfl H (fun S2 H => ?_)
      refine x_goto 256 (x_at tdX12_readLine 32 rfl) rfl ?_
      refine x_weak (lv' := [(0, .ref (x_ad (gM h) 0))]) ⟨rfl, trivial⟩ ?_
      exact H
theorem b_M_readLine_78 {h : xH} {d : Nat}   {S : xSt} {K : xSt → Prop}  (H : M_M_isWord h (d + 5) 112641580559972 S (fun (r1 : Int32) (S1 : xSt) => ((r1 = 0 → B_M_readLine_104 h d S1 K) ∧ (¬ r1 = 0 → ((15 ≤ (S1.1 0 52) → B_M_readLine_104 h d S1 K) ∧ (¬ 15 ≤ (S1.1 0 52) → M_M_readFriend h (d + 2) S1 (fun (S2 : xSt) => B_M_readLine_256 h d S2 K))))))) : B_M_readLine_78 h d S K := by
  unfold B_M_readLine_78
  refine x_aload_n (x_at tdX12_readLine 33 rfl) rfl rfl ?_
  refine x_ldc2 (x_at tdX12_readLine 34 rfl) wk_X12_243 ?_
  refine x_cVi (as := [.long 112641580559972]) (rest := []) mi_X12_isWord vc_12 (lM_0 h) (x_at tdX12_readLine 35 rfl) wm_X12_263 rfl (Nat.le_of_ble_eq_true rfl) rfl H (fun r1 S1 H => ?_)
  refine x_if_eq 104 (x_at tdX12_readLine 36 rfl) rfl (fun c => ?_) (fun c => ?_)
  · have H := H.1 c
    refine x_weak (lv' := [(0, .ref (x_ad (gM h) 0))]) ⟨rfl, trivial⟩ ?_
    exact H
  · have H := H.2 c
    refine x_aload_n (x_at tdX12_readLine 37 rfl) rfl rfl ?_
    refine gfM_0_52 (x_at tdX12_readLine 38 rfl) wf_X12_378 ?_
    refine x_bipush (x_at tdX12_readLine 39 rfl) k_b_15 ?_
    refine x_ic_ge 104 (x_at tdX12_readLine 40 rfl) rfl (fun c => ?_) (fun c => ?_)
    · have H := H.1 c
      refine x_weak (lv' := [(0, .ref (x_ad (gM h) 0))]) ⟨rfl, trivial⟩ ?_
      exact H
    · have H := H.2 c
      refine x_aload_n (x_at tdX12_readLine 41 rfl) rfl rfl ?_
      refine x_cVv (as := []) (rest := []) mi_X12_readFriend vc_12 (lM_0 h) (x_at tdX12_readLine 42 rfl) wm_X12_390 rfl (Nat.le_of_ble_eq_true rfl) rfl H (fun S2 H => ?_)
      refine x_goto 256 (x_at tdX12_readLine 43 rfl) rfl ?_
      refine x_weak (lv' := [(0, .ref (x_ad (gM h) 0))]) ⟨rfl, trivial⟩ ?_
      exact H
theorem b_M_readLine_104 {h : xH} {d : Nat}   {S : xSt} {K : xSt → Prop}  (H : M_M_isWord h (d + 5) 2003132786 S (fun (r1 : Int32) (S1 : xSt) => ((r1 = 0 → B_M_readLine_133 h d S1 K) ∧ (¬ r1 = 0 → ((¬ (S1.1 0 62) = 0 → B_M_readLine_133 h d S1 K) ∧ ((S1.1 0 62) = 0 → M_M_readWear h (d + 1) (x_putI S1 0 62 1) (fun (S2 : xSt) => B_M_readLine_256 h d S2 K))))))) : B_M_readLine_104 h d S K := by
  unfold B_M_readLine_104
  refine x_aload_n (x_at tdX12_readLine 44 rfl) rfl rfl ?_
  refine x_ldc2 (x_at tdX12_readLine 45 rfl) wk_X12_245 ?_
  refine x_cVi (as := [.long 2003132786]) (rest := []) mi_X12_isWord vc_12 (lM_0 h) (x_at tdX12_readLine 46 rfl) wm_X12_263 rfl (Nat.le_of_ble_eq_true rfl) rfl H (fun r1 S1 H => ?_)
  refine x_if_eq 133 (x_at tdX12_readLine 47 rfl) rfl (fun c => ?_) (fun c => ?_)
  · have H := H.1 c
    refine x_weak (lv' := [(0, .ref (x_ad (gM h) 0))]) ⟨rfl, trivial⟩ ?_
    exact H
  · have H := H.2 c
    refine x_aload_n (x_at tdX12_readLine 48 rfl) rfl rfl ?_
    refine gfM_0_62 (x_at tdX12_readLine 49 rfl) wf_X12_393 ?_
    refine x_if_ne 133 (x_at tdX12_readLine 50 rfl) rfl (fun c => ?_) (fun c => ?_)
    · have H := H.1 c
      refine x_weak (lv' := [(0, .ref (x_ad (gM h) 0))]) ⟨rfl, trivial⟩ ?_
      exact H
    · have H := H.2 c
      refine x_aload_n (x_at tdX12_readLine 51 rfl) rfl rfl ?_
      refine x_iconst (x_at tdX12_readLine 52 rfl) k_c_1 ?_
      refine pfM_0_62 (x_at tdX12_readLine 53 rfl) wf_X12_393 zb1 ?_
      refine x_aload_n (x_at tdX12_readLine 54 rfl) rfl rfl ?_
      refine x_cVv (as := []) (rest := []) mi_X12_readWear vc_12 (lM_0 h) (x_at tdX12_readLine 55 rfl) wm_X12_396 rfl (Nat.le_of_ble_eq_true rfl) rfl H (fun S2 H => ?_)
      refine x_goto 256 (x_at tdX12_readLine 56 rfl) rfl ?_
      refine x_weak (lv' := [(0, .ref (x_ad (gM h) 0))]) ⟨rfl, trivial⟩ ?_
      exact H
theorem b_M_readLine_133 {h : xH} {d : Nat}   {S : xSt} {K : xSt → Prop}  (H : M_M_isWord h (d + 5) 6578553 S (fun (r1 : Int32) (S1 : xSt) => ((r1 = 0 → B_M_readLine_172 h d S1 K) ∧ (¬ r1 = 0 → ((¬ (S1.1 0 63) = 0 → B_M_readLine_172 h d S1 K) ∧ ((S1.1 0 63) = 0 → M_M_told h (d + 2) 6578553 1 24 (x_putI S1 0 63 1) (fun (r2 : Int32) (S2 : xSt) => B_M_readLine_256 h d (x_putI S2 0 53 r2) K))))))) : B_M_readLine_133 h d S K := by
  unfold B_M_readLine_133
  refine x_aload_n (x_at tdX12_readLine 57 rfl) rfl rfl ?_
  refine x_ldc2 (x_at tdX12_readLine 58 rfl) wk_X12_247 ?_
  refine x_cVi (as := [.long 6578553]) (rest := []) mi_X12_isWord vc_12 (lM_0 h) (x_at tdX12_readLine 59 rfl) wm_X12_263 rfl (Nat.le_of_ble_eq_true rfl) rfl H (fun r1 S1 H => ?_)
  refine x_if_eq 172 (x_at tdX12_readLine 60 rfl) rfl (fun c => ?_) (fun c => ?_)
  · have H := H.1 c
    refine x_weak (lv' := [(0, .ref (x_ad (gM h) 0))]) ⟨rfl, trivial⟩ ?_
    exact H
  · have H := H.2 c
    refine x_aload_n (x_at tdX12_readLine 61 rfl) rfl rfl ?_
    refine gfM_0_63 (x_at tdX12_readLine 62 rfl) wf_X12_399 ?_
    refine x_if_ne 172 (x_at tdX12_readLine 63 rfl) rfl (fun c => ?_) (fun c => ?_)
    · have H := H.1 c
      refine x_weak (lv' := [(0, .ref (x_ad (gM h) 0))]) ⟨rfl, trivial⟩ ?_
      exact H
    · have H := H.2 c
      refine x_aload_n (x_at tdX12_readLine 64 rfl) rfl rfl ?_
      refine x_iconst (x_at tdX12_readLine 65 rfl) k_c_1 ?_
      refine pfM_0_63 (x_at tdX12_readLine 66 rfl) wf_X12_399 zb1 ?_
      refine x_aload_n (x_at tdX12_readLine 67 rfl) rfl rfl ?_
      refine x_aload_n (x_at tdX12_readLine 68 rfl) rfl rfl ?_
      refine x_ldc2 (x_at tdX12_readLine 69 rfl) wk_X12_247 ?_
      refine x_iconst (x_at tdX12_readLine 70 rfl) k_c_1 ?_
      refine x_bipush (x_at tdX12_readLine 71 rfl) k_b_24 ?_
      refine x_cVi (as := [.long 6578553, .int 1, .int 24]) (rest := [.ref (x_ad (gM h) 0)]) mi_X12_told vc_12 (lM_0 h) (x_at tdX12_readLine 72 rfl) wm_X12_281 rfl (Nat.le_of_ble_eq_true rfl) rfl H (fun r2 S2 H => ?_)
      refine pfM_0_53 (x_at tdX12_readLine 73 rfl) wf_X12_402 ?_
      refine x_goto 256 (x_at tdX12_readLine 74 rfl) rfl ?_
      refine x_weak (lv' := [(0, .ref (x_ad (gM h) 0))]) ⟨rfl, trivial⟩ ?_
      exact H
theorem b_M_readLine_172 {h : xH} {d : Nat}   {S : xSt} {K : xSt → Prop}  (H : M_M_isWord h (d + 5) 495874699885 S (fun (r1 : Int32) (S1 : xSt) => ((r1 = 0 → B_M_readLine_211 h d S1 K) ∧ (¬ r1 = 0 → ((¬ (S1.1 0 64) = 0 → B_M_readLine_211 h d S1 K) ∧ ((S1.1 0 64) = 0 → M_M_told h (d + 2) 495874699885 0 100 (x_putI S1 0 64 1) (fun (r2 : Int32) (S2 : xSt) => B_M_readLine_256 h d (x_putI S2 0 54 r2) K))))))) : B_M_readLine_172 h d S K := by
  unfold B_M_readLine_172
  refine x_aload_n (x_at tdX12_readLine 75 rfl) rfl rfl ?_
  refine x_ldc2 (x_at tdX12_readLine 76 rfl) wk_X12_249 ?_
  refine x_cVi (as := [.long 495874699885]) (rest := []) mi_X12_isWord vc_12 (lM_0 h) (x_at tdX12_readLine 77 rfl) wm_X12_263 rfl (Nat.le_of_ble_eq_true rfl) rfl H (fun r1 S1 H => ?_)
  refine x_if_eq 211 (x_at tdX12_readLine 78 rfl) rfl (fun c => ?_) (fun c => ?_)
  · have H := H.1 c
    refine x_weak (lv' := [(0, .ref (x_ad (gM h) 0))]) ⟨rfl, trivial⟩ ?_
    exact H
  · have H := H.2 c
    refine x_aload_n (x_at tdX12_readLine 79 rfl) rfl rfl ?_
    refine gfM_0_64 (x_at tdX12_readLine 80 rfl) wf_X12_405 ?_
    refine x_if_ne 211 (x_at tdX12_readLine 81 rfl) rfl (fun c => ?_) (fun c => ?_)
    · have H := H.1 c
      refine x_weak (lv' := [(0, .ref (x_ad (gM h) 0))]) ⟨rfl, trivial⟩ ?_
      exact H
    · have H := H.2 c
      refine x_aload_n (x_at tdX12_readLine 82 rfl) rfl rfl ?_
      refine x_iconst (x_at tdX12_readLine 83 rfl) k_c_1 ?_
      refine pfM_0_64 (x_at tdX12_readLine 84 rfl) wf_X12_405 zb1 ?_
      refine x_aload_n (x_at tdX12_readLine 85 rfl) rfl rfl ?_
      refine x_aload_n (x_at tdX12_readLine 86 rfl) rfl rfl ?_
      refine x_ldc2 (x_at tdX12_readLine 87 rfl) wk_X12_249 ?_
      refine x_iconst (x_at tdX12_readLine 88 rfl) k_c_0 ?_
      refine x_bipush (x_at tdX12_readLine 89 rfl) k_b_100 ?_
      refine x_cVi (as := [.long 495874699885, .int 0, .int 100]) (rest := [.ref (x_ad (gM h) 0)]) mi_X12_told vc_12 (lM_0 h) (x_at tdX12_readLine 90 rfl) wm_X12_281 rfl (Nat.le_of_ble_eq_true rfl) rfl H (fun r2 S2 H => ?_)
      refine pfM_0_54 (x_at tdX12_readLine 91 rfl) wf_X12_408 ?_
      refine x_goto 256 (x_at tdX12_readLine 92 rfl) rfl ?_
      refine x_weak (lv' := [(0, .ref (x_ad (gM h) 0))]) ⟨rfl, trivial⟩ ?_
      exact H
theorem b_M_readLine_211 {h : xH} {d : Nat}   {S : xSt} {K : xSt → Prop}  (H : M_M_isWord h (d + 5) 1685217655 S (fun (r1 : Int32) (S1 : xSt) => ((r1 = 0 → B_M_readLine_251 h d S1 K) ∧ (¬ r1 = 0 → ((¬ (S1.1 0 65) = 0 → B_M_readLine_251 h d S1 K) ∧ ((S1.1 0 65) = 0 → M_M_told h (d + 2) 1685217655 0 999 (x_putI S1 0 65 1) (fun (r2 : Int32) (S2 : xSt) => B_M_readLine_256 h d (x_putI S2 0 55 r2) K))))))) : B_M_readLine_211 h d S K := by
  unfold B_M_readLine_211
  refine x_aload_n (x_at tdX12_readLine 93 rfl) rfl rfl ?_
  refine x_ldc2 (x_at tdX12_readLine 94 rfl) wk_X12_251 ?_
  refine x_cVi (as := [.long 1685217655]) (rest := []) mi_X12_isWord vc_12 (lM_0 h) (x_at tdX12_readLine 95 rfl) wm_X12_263 rfl (Nat.le_of_ble_eq_true rfl) rfl H (fun r1 S1 H => ?_)
  refine x_if_eq 251 (x_at tdX12_readLine 96 rfl) rfl (fun c => ?_) (fun c => ?_)
  · have H := H.1 c
    refine x_weak (lv' := [(0, .ref (x_ad (gM h) 0))]) ⟨rfl, trivial⟩ ?_
    exact H
  · have H := H.2 c
    refine x_aload_n (x_at tdX12_readLine 97 rfl) rfl rfl ?_
    refine gfM_0_65 (x_at tdX12_readLine 98 rfl) wf_X12_411 ?_
    refine x_if_ne 251 (x_at tdX12_readLine 99 rfl) rfl (fun c => ?_) (fun c => ?_)
    · have H := H.1 c
      refine x_weak (lv' := [(0, .ref (x_ad (gM h) 0))]) ⟨rfl, trivial⟩ ?_
      exact H
    · have H := H.2 c
      refine x_aload_n (x_at tdX12_readLine 100 rfl) rfl rfl ?_
      refine x_iconst (x_at tdX12_readLine 101 rfl) k_c_1 ?_
      refine pfM_0_65 (x_at tdX12_readLine 102 rfl) wf_X12_411 zb1 ?_
      refine x_aload_n (x_at tdX12_readLine 103 rfl) rfl rfl ?_
      refine x_aload_n (x_at tdX12_readLine 104 rfl) rfl rfl ?_
      refine x_ldc2 (x_at tdX12_readLine 105 rfl) wk_X12_251 ?_
      refine x_iconst (x_at tdX12_readLine 106 rfl) k_c_0 ?_
      refine x_sipush (x_at tdX12_readLine 107 rfl) k_s_999 ?_
      refine x_cVi (as := [.long 1685217655, .int 0, .int 999]) (rest := [.ref (x_ad (gM h) 0)]) mi_X12_told vc_12 (lM_0 h) (x_at tdX12_readLine 108 rfl) wm_X12_281 rfl (Nat.le_of_ble_eq_true rfl) rfl H (fun r2 S2 H => ?_)
      refine pfM_0_55 (x_at tdX12_readLine 109 rfl) wf_X12_414 ?_
      refine x_goto 256 (x_at tdX12_readLine 110 rfl) rfl ?_
      refine x_weak (lv' := [(0, .ref (x_ad (gM h) 0))]) ⟨rfl, trivial⟩ ?_
      exact H
theorem b_M_readLine_251 {h : xH} {d : Nat}   {S : xSt} {K : xSt → Prop}  (H : M_M_wrong h (d + 5) 2 S (fun (S1 : xSt) => B_M_readLine_256 h d S1 K)) : B_M_readLine_251 h d S K := by
  unfold B_M_readLine_251
  refine x_aload_n (x_at tdX12_readLine 111 rfl) rfl rfl ?_
  refine x_iconst (x_at tdX12_readLine 112 rfl) k_c_2 ?_
  refine x_cVv (as := [.int 2]) (rest := []) mi_X12_wrong vc_12 (lM_0 h) (x_at tdX12_readLine 113 rfl) wm_X12_267 rfl (Nat.le_of_ble_eq_true rfl) rfl H (fun S1 H => ?_)
  refine x_weak (lv' := [(0, .ref (x_ad (gM h) 0))]) ⟨rfl, trivial⟩ ?_
  exact H
theorem b_M_readLine_256 {h : xH} {d : Nat}   {S : xSt} {K : xSt → Prop}  (H : ((¬ (S.1 0 2) = 0 → B_M_readLine_277 h d S K) ∧ ((S.1 0 2) = 0 → (((S.1 0 6) = 59 → B_M_readLine_277 h d S K) ∧ (¬ (S.1 0 6) = 59 → M_M_wrong h (d + 5) 2 S (fun (S1 : xSt) => B_M_readLine_277 h d S1 K)))))) : B_M_readLine_256 h d S K := by
  unfold B_M_readLine_256
  refine x_aload_n (x_at tdX12_readLine 114 rfl) rfl rfl ?_
  refine gfM_0_2 (x_at tdX12_readLine 115 rfl) wf_X12_212 ?_
  refine x_if_ne 277 (x_at tdX12_readLine 116 rfl) rfl (fun c => ?_) (fun c => ?_)
  · have H := H.1 c
    refine x_weak (lv' := [(0, .ref (x_ad (gM h) 0))]) ⟨rfl, trivial⟩ ?_
    exact H
  · have H := H.2 c
    refine x_aload_n (x_at tdX12_readLine 117 rfl) rfl rfl ?_
    refine gfM_0_6 (x_at tdX12_readLine 118 rfl) wf_X12_199 ?_
    refine x_bipush (x_at tdX12_readLine 119 rfl) k_b_59 ?_
    refine x_ic_eq 277 (x_at tdX12_readLine 120 rfl) rfl (fun c => ?_) (fun c => ?_)
    · have H := H.1 c
      refine x_weak (lv' := [(0, .ref (x_ad (gM h) 0))]) ⟨rfl, trivial⟩ ?_
      exact H
    · have H := H.2 c
      refine x_aload_n (x_at tdX12_readLine 121 rfl) rfl rfl ?_
      refine x_iconst (x_at tdX12_readLine 122 rfl) k_c_2 ?_
      refine x_cVv (as := [.int 2]) (rest := []) mi_X12_wrong vc_12 (lM_0 h) (x_at tdX12_readLine 123 rfl) wm_X12_267 rfl (Nat.le_of_ble_eq_true rfl) rfl H (fun S1 H => ?_)
      refine x_weak (lv' := [(0, .ref (x_ad (gM h) 0))]) ⟨rfl, trivial⟩ ?_
      exact H
theorem b_M_readLine_277 {h : xH} {d : Nat}   {S : xSt} {K : xSt → Prop}  (H : ((¬ (S.1 0 2) = 0 → K S) ∧ ((S.1 0 2) = 0 → M_M_token h (d + 4) S (fun (S1 : xSt) => K S1)))) : B_M_readLine_277 h d S K := by
  unfold B_M_readLine_277
  refine x_aload_n (x_at tdX12_readLine 124 rfl) rfl rfl ?_
  refine gfM_0_2 (x_at tdX12_readLine 125 rfl) wf_X12_212 ?_
  refine x_if_ne 288 (x_at tdX12_readLine 126 rfl) rfl (fun c => ?_) (fun c => ?_)
  · have H := H.1 c
    exact x_return rfl (x_at tdX12_readLine 129 rfl) ⟨rfl, H⟩
  · have H := H.2 c
    refine x_aload_n (x_at tdX12_readLine 127 rfl) rfl rfl ?_
    refine x_cVv (as := []) (rest := []) mi_X12_token vc_12 (lM_0 h) (x_at tdX12_readLine 128 rfl) wm_X12_270 rfl (Nat.le_of_ble_eq_true rfl) rfl H (fun S1 H => ?_)
    exact x_return rfl (x_at tdX12_readLine 129 rfl) ⟨rfl, H⟩
theorem e_M_readAll {h : xH} {d : Nat}  {S : xSt} {K : xSt → Prop}  (H : M_M_token h (d + 5) (x_putI (x_putI (x_putI (x_putI (x_putI (x_putI (x_putI (x_putI (x_putI (x_putI (x_putI (x_putI (x_putI (x_putI (x_putI (x_putI (x_putI (x_putI S 0 5 (S.1 0 1)) 0 1 0) 0 4 0) 0 2 0) 0 3 (-1)) 0 49 0) 0 50 0) 0 51 0) 0 52 0) 0 53 8) 0 54 0) 0 55 0) 0 62 0) 0 63 0) 0 64 0) 0 65 0) 0 20 0) 0 17 0) (fun (S1 : xSt) => B_M_readAll_98 h d S1 K)) : M_M_readAll h d S K := by
  refine x_enter pn_X12 (Nat.le_of_ble_eq_true rfl) ?_
  show X (gM h) _ _ 0 [(0, .ref (x_ad (gM h) 0))] [] S _
  refine x_aload_n (x_at tdX12_readAll 0 rfl) rfl rfl ?_
  refine x_aload_n (x_at tdX12_readAll 1 rfl) rfl rfl ?_
  refine gfM_0_1 (x_at tdX12_readAll 2 rfl) wf_X12_172 ?_
  refine pfM_0_5 (x_at tdX12_readAll 3 rfl) wf_X12_182 ?_
  refine x_aload_n (x_at tdX12_readAll 4 rfl) rfl rfl ?_
  refine x_iconst (x_at tdX12_readAll 5 rfl) k_c_0 ?_
  refine pfM_0_1 (x_at tdX12_readAll 6 rfl) wf_X12_172 ?_
  refine x_aload_n (x_at tdX12_readAll 7 rfl) rfl rfl ?_
  refine x_iconst (x_at tdX12_readAll 8 rfl) k_c_0 ?_
  refine pfM_0_4 (x_at tdX12_readAll 9 rfl) wf_X12_179 ?_
  refine x_aload_n (x_at tdX12_readAll 10 rfl) rfl rfl ?_
  refine x_iconst (x_at tdX12_readAll 11 rfl) k_c_0 ?_
  refine pfM_0_2 (x_at tdX12_readAll 12 rfl) wf_X12_212 ?_
  refine x_aload_n (x_at tdX12_readAll 13 rfl) rfl rfl ?_
  refine x_iconst (x_at tdX12_readAll 14 rfl) k_c_m1 ?_
  refine pfM_0_3 (x_at tdX12_readAll 15 rfl) wf_X12_13 ?_
  refine x_aload_n (x_at tdX12_readAll 16 rfl) rfl rfl ?_
  refine x_iconst (x_at tdX12_readAll 17 rfl) k_c_0 ?_
  refine pfM_0_49 (x_at tdX12_readAll 18 rfl) wf_X12_359 ?_
  refine x_aload_n (x_at tdX12_readAll 19 rfl) rfl rfl ?_
  refine x_iconst (x_at tdX12_readAll 20 rfl) k_c_0 ?_
  refine pfM_0_50 (x_at tdX12_readAll 21 rfl) wf_X12_369 ?_
  refine x_aload_n (x_at tdX12_readAll 22 rfl) rfl rfl ?_
  refine x_iconst (x_at tdX12_readAll 23 rfl) k_c_0 ?_
  refine pfM_0_51 (x_at tdX12_readAll 24 rfl) wf_X12_372 ?_
  refine x_aload_n (x_at tdX12_readAll 25 rfl) rfl rfl ?_
  refine x_iconst (x_at tdX12_readAll 26 rfl) k_c_0 ?_
  refine pfM_0_52 (x_at tdX12_readAll 27 rfl) wf_X12_378 ?_
  refine x_aload_n (x_at tdX12_readAll 28 rfl) rfl rfl ?_
  refine x_bipush (x_at tdX12_readAll 29 rfl) k_b_8 ?_
  refine pfM_0_53 (x_at tdX12_readAll 30 rfl) wf_X12_402 ?_
  refine x_aload_n (x_at tdX12_readAll 31 rfl) rfl rfl ?_
  refine x_iconst (x_at tdX12_readAll 32 rfl) k_c_0 ?_
  refine pfM_0_54 (x_at tdX12_readAll 33 rfl) wf_X12_408 ?_
  refine x_aload_n (x_at tdX12_readAll 34 rfl) rfl rfl ?_
  refine x_iconst (x_at tdX12_readAll 35 rfl) k_c_0 ?_
  refine pfM_0_55 (x_at tdX12_readAll 36 rfl) wf_X12_414 ?_
  refine x_aload_n (x_at tdX12_readAll 37 rfl) rfl rfl ?_
  refine x_iconst (x_at tdX12_readAll 38 rfl) k_c_0 ?_
  refine pfM_0_62 (x_at tdX12_readAll 39 rfl) wf_X12_393 zb0 ?_
  refine x_aload_n (x_at tdX12_readAll 40 rfl) rfl rfl ?_
  refine x_iconst (x_at tdX12_readAll 41 rfl) k_c_0 ?_
  refine pfM_0_63 (x_at tdX12_readAll 42 rfl) wf_X12_399 zb0 ?_
  refine x_aload_n (x_at tdX12_readAll 43 rfl) rfl rfl ?_
  refine x_iconst (x_at tdX12_readAll 44 rfl) k_c_0 ?_
  refine pfM_0_64 (x_at tdX12_readAll 45 rfl) wf_X12_405 zb0 ?_
  refine x_aload_n (x_at tdX12_readAll 46 rfl) rfl rfl ?_
  refine x_iconst (x_at tdX12_readAll 47 rfl) k_c_0 ?_
  refine pfM_0_65 (x_at tdX12_readAll 48 rfl) wf_X12_411 zb0 ?_
  refine x_aload_n (x_at tdX12_readAll 49 rfl) rfl rfl ?_
  refine x_iconst (x_at tdX12_readAll 50 rfl) k_c_0 ?_
  refine pfM_0_20 (x_at tdX12_readAll 51 rfl) wf_X12_307 ?_
  refine x_aload_n (x_at tdX12_readAll 52 rfl) rfl rfl ?_
  refine x_iconst (x_at tdX12_readAll 53 rfl) k_c_0 ?_
  refine pfM_0_17 (x_at tdX12_readAll 54 rfl) wf_X12_291 ?_
  refine x_aload_n (x_at tdX12_readAll 55 rfl) rfl rfl ?_
  refine x_cVv (as := []) (rest := []) mi_X12_token vc_12 (lM_0 h) (x_at tdX12_readAll 56 rfl) wm_X12_270 rfl (Nat.le_of_ble_eq_true rfl) rfl H (fun S1 H => ?_)
  refine x_weak (lv' := [(0, .ref (x_ad (gM h) 0))]) ⟨rfl, trivial⟩ ?_
  exact H
theorem b_M_readAll_98 {h : xH} {d : Nat}   {S : xSt} {K : xSt → Prop}  (H : ((¬ (S.1 0 2) = 0 → K S) ∧ ((S.1 0 2) = 0 → (((S.1 0 6) = 0 → K S) ∧ (¬ (S.1 0 6) = 0 → M_M_readLine h d S (fun (S1 : xSt) => B_M_readAll_98 h d S1 K)))))) : B_M_readAll_98 h d S K := by
  unfold B_M_readAll_98
  refine x_aload_n (x_at tdX12_readAll 57 rfl) rfl rfl ?_
  refine gfM_0_2 (x_at tdX12_readAll 58 rfl) wf_X12_212 ?_
  refine x_if_ne 119 (x_at tdX12_readAll 59 rfl) rfl (fun c => ?_) (fun c => ?_)
  · have H := H.1 c
    exact x_return rfl (x_at tdX12_readAll 66 rfl) ⟨rfl, H⟩
  · have H := H.2 c
    refine x_aload_n (x_at tdX12_readAll 60 rfl) rfl rfl ?_
    refine gfM_0_6 (x_at tdX12_readAll 61 rfl) wf_X12_199 ?_
    refine x_if_eq 119 (x_at tdX12_readAll 62 rfl) rfl (fun c => ?_) (fun c => ?_)
    · have H := H.1 c
      exact x_return rfl (x_at tdX12_readAll 66 rfl) ⟨rfl, H⟩
    · have H := H.2 c
      refine x_aload_n (x_at tdX12_readAll 63 rfl) rfl rfl ?_
      refine x_cVv (as := []) (rest := []) mi_X12_readLine vc_12 (lM_0 h) (x_at tdX12_readAll 64 rfl) wm_X12_417 rfl (Nat.le_of_ble_eq_true rfl) rfl H (fun S1 H => ?_)
      refine x_goto 98 (x_at tdX12_readAll 65 rfl) rfl ?_
      refine x_weak (lv' := [(0, .ref (x_ad (gM h) 0))]) ⟨rfl, trivial⟩ ?_
      exact H
theorem e_M_regiment {h : xH} {d : Nat}  {S : xSt} {K : Int32 → xSt → Prop}  (H : M_M_readAll h d S (fun (S1 : xSt) => (((S1.1 0 2) ≤ 0 → (zb (S1.1 0 62) ∧ (((S1.1 0 62) = 0 → B_M_regiment_93 h d 0 (x_putI (x_putI (x_putI (x_putI (x_putI (x_putI (x_putI (x_putI S1 0 56 (S1.1 0 49)) 0 57 (S1.1 0 50)) 0 58 (S1.1 0 51)) 0 59 (S1.1 0 52)) 0 60 (S1.1 0 53)) 0 61 (S1.1 0 54)) 0 21 (S1.1 0 20)) 0 66 (S1.1 0 62)) K) ∧ (¬ (S1.1 0 62) = 0 → B_M_regiment_93 h d (S1.1 0 17) (x_putI (x_putI (x_putI (x_putI (x_putI (x_putI (x_putI (x_putI S1 0 56 (S1.1 0 49)) 0 57 (S1.1 0 50)) 0 58 (S1.1 0 51)) 0 59 (S1.1 0 52)) 0 60 (S1.1 0 53)) 0 61 (S1.1 0 54)) 0 21 (S1.1 0 20)) 0 66 (S1.1 0 62)) K)))) ∧ (¬ (S1.1 0 2) ≤ 0 → K (-1) S1)))) : M_M_regiment h d S K := by
  refine x_enter pn_X12 (Nat.le_of_ble_eq_true rfl) ?_
  show X (gM h) _ _ 0 [(0, .ref (x_ad (gM h) 0))] [] S _
  refine x_aload_n (x_at tdX12_regiment 0 rfl) rfl rfl ?_
  refine x_cVv (as := []) (rest := []) mi_X12_readAll vc_12 (lM_0 h) (x_at tdX12_regiment 1 rfl) wm_X12_420 rfl (Nat.le_of_ble_eq_true rfl) rfl H (fun S1 H => ?_)
  refine x_aload_n (x_at tdX12_regiment 2 rfl) rfl rfl ?_
  refine gfM_0_2 (x_at tdX12_regiment 3 rfl) wf_X12_212 ?_
  refine x_if_le 13 (x_at tdX12_regiment 4 rfl) rfl (fun c => ?_) (fun c => ?_)
  · have H := H.1 c
    refine x_aload_n (x_at tdX12_regiment 7 rfl) rfl rfl ?_
    refine x_aload_n (x_at tdX12_regiment 8 rfl) rfl rfl ?_
    refine gfM_0_49 (x_at tdX12_regiment 9 rfl) wf_X12_359 ?_
    refine pfM_0_56 (x_at tdX12_regiment 10 rfl) wf_X12_423 ?_
    refine x_aload_n (x_at tdX12_regiment 11 rfl) rfl rfl ?_
    refine x_aload_n (x_at tdX12_regiment 12 rfl) rfl rfl ?_
    refine gfM_0_50 (x_at tdX12_regiment 13 rfl) wf_X12_369 ?_
    refine x_top (v := (S1.1 0 50)) rfl ?_
    refine pfM_0_57 (x_at tdX12_regiment 14 rfl) wf_X12_426 ?_
    refine x_aload_n (x_at tdX12_regiment 15 rfl) rfl rfl ?_
    refine x_aload_n (x_at tdX12_regiment 16 rfl) rfl rfl ?_
    refine gfM_0_51 (x_at tdX12_regiment 17 rfl) wf_X12_372 ?_
    refine x_top (v := (S1.1 0 51)) rfl ?_
    refine pfM_0_58 (x_at tdX12_regiment 18 rfl) wf_X12_429 ?_
    refine x_aload_n (x_at tdX12_regiment 19 rfl) rfl rfl ?_
    refine x_aload_n (x_at tdX12_regiment 20 rfl) rfl rfl ?_
    refine gfM_0_52 (x_at tdX12_regiment 21 rfl) wf_X12_378 ?_
    refine x_top (v := (S1.1 0 52)) rfl ?_
    refine pfM_0_59 (x_at tdX12_regiment 22 rfl) wf_X12_432 ?_
    refine x_aload_n (x_at tdX12_regiment 23 rfl) rfl rfl ?_
    refine x_aload_n (x_at tdX12_regiment 24 rfl) rfl rfl ?_
    refine gfM_0_53 (x_at tdX12_regiment 25 rfl) wf_X12_402 ?_
    refine x_top (v := (S1.1 0 53)) rfl ?_
    refine pfM_0_60 (x_at tdX12_regiment 26 rfl) wf_X12_115 ?_
    refine x_aload_n (x_at tdX12_regiment 27 rfl) rfl rfl ?_
    refine x_aload_n (x_at tdX12_regiment 28 rfl) rfl rfl ?_
    refine gfM_0_54 (x_at tdX12_regiment 29 rfl) wf_X12_408 ?_
    refine x_top (v := (S1.1 0 54)) rfl ?_
    refine pfM_0_61 (x_at tdX12_regiment 30 rfl) wf_X12_435 ?_
    refine x_aload_n (x_at tdX12_regiment 31 rfl) rfl rfl ?_
    refine x_aload_n (x_at tdX12_regiment 32 rfl) rfl rfl ?_
    refine gfM_0_20 (x_at tdX12_regiment 33 rfl) wf_X12_307 ?_
    refine x_top (v := (S1.1 0 20)) rfl ?_
    refine pfM_0_21 (x_at tdX12_regiment 34 rfl) wf_X12_438 ?_
    refine x_aload_n (x_at tdX12_regiment 35 rfl) rfl rfl ?_
    refine x_aload_n (x_at tdX12_regiment 36 rfl) rfl rfl ?_
    refine gfM_0_62 (x_at tdX12_regiment 37 rfl) wf_X12_393 ?_
    refine x_top (v := (S1.1 0 62)) rfl ?_
    refine pfM_0_66 (x_at tdX12_regiment 38 rfl) wf_X12_348 H.1 ?_
    have H := H.2
    refine x_aload_n (x_at tdX12_regiment 39 rfl) rfl rfl ?_
    refine x_aload_n (x_at tdX12_regiment 40 rfl) rfl rfl ?_
    refine gfM_0_62 (x_at tdX12_regiment 41 rfl) wf_X12_393 ?_
    refine x_top (v := (S1.1 0 62)) rfl ?_
    refine x_if_eq 92 (x_at tdX12_regiment 42 rfl) rfl (fun c => ?_) (fun c => ?_)
    · have H := H.1 c
      refine x_iconst (x_at tdX12_regiment 46 rfl) k_c_0 ?_
      refine x_weak (lv' := [(0, .ref (x_ad (gM h) 0))]) ⟨rfl, trivial⟩ ?_
      exact H
    · have H := H.2 c
      refine x_aload_n (x_at tdX12_regiment 43 rfl) rfl rfl ?_
      refine gfM_0_17 (x_at tdX12_regiment 44 rfl) wf_X12_291 ?_
      refine x_top (v := (S1.1 0 17)) rfl ?_
      refine x_goto 93 (x_at tdX12_regiment 45 rfl) rfl ?_
      refine x_weak (lv' := [(0, .ref (x_ad (gM h) 0))]) ⟨rfl, trivial⟩ ?_
      exact H
  · have H := H.2 c
    refine x_iconst (x_at tdX12_regiment 5 rfl) k_c_m1 ?_
    exact x_ireturn (ty := .int) rfl rfl (x_at tdX12_regiment 6 rfl) ⟨_, rfl, H⟩
theorem b_M_regiment_93 {h : xH} {d : Nat}  {s0 : Int32} {S : xSt} {K : Int32 → xSt → Prop}  (H : B_M_regiment_98 h d 0 (x_putI S 0 18 s0) K) : B_M_regiment_93 h d s0 S K := by
  unfold B_M_regiment_93
  refine pfM_0_18 (x_at tdX12_regiment 47 rfl) wf_X12_352 ?_
  refine x_iconst (x_at tdX12_regiment 48 rfl) k_c_0 ?_
  refine x_istore_n (x_at tdX12_regiment 49 rfl) rfl (by decide) ?_
  refine x_weak (lv' := [(0, .ref (x_ad (gM h) 0)), (1, .int 0)]) ⟨rfl, rfl, trivial⟩ ?_
  exact H
theorem b_M_regiment_98 {h : xH} {d : Nat}  {x1 : Int32} {S : xSt} {K : Int32 → xSt → Prop}  (H : (((S.1 0 18) ≤ x1 → B_M_regiment_138 h d 0 S K) ∧ (¬ (S.1 0 18) ≤ x1 → (vp_in x1 320 ∧ (vp_in x1 320 ∧ (vp_in x1 320 ∧ (vp_in x1 320 ∧ B_M_regiment_98 h d (x1 + 1) (x_putI (x_putI S 5 (x1 : Int32).toNatClampNeg (S.1 3 (x1 : Int32).toNatClampNeg)) 6 (x1 : Int32).toNatClampNeg (S.1 4 (x1 : Int32).toNatClampNeg)) K))))))) : B_M_regiment_98 h d x1 S K := by
  unfold B_M_regiment_98
  refine x_iload_n (x_at tdX12_regiment 50 rfl) rfl rfl ?_
  refine x_aload_n (x_at tdX12_regiment 51 rfl) rfl rfl ?_
  refine gfM_0_18 (x_at tdX12_regiment 52 rfl) wf_X12_352 ?_
  refine x_ic_ge 136 (x_at tdX12_regiment 53 rfl) rfl (fun c => ?_) (fun c => ?_)
  · have H := H.1 c
    refine x_iconst (x_at tdX12_regiment 72 rfl) k_c_0 ?_
    refine x_istore_n (x_at tdX12_regiment 73 rfl) rfl (by decide) ?_
    refine x_weak (lv' := [(0, .ref (x_ad (gM h) 0)), (1, .int 0)]) ⟨rfl, rfl, trivial⟩ ?_
    exact H
  · have H := H.2 c
    refine x_aload_n (x_at tdX12_regiment 54 rfl) rfl rfl ?_
    refine gfM_0_13 (x_at tdX12_regiment 55 rfl) wf_X12_27 ?_
    refine x_iload_n (x_at tdX12_regiment 56 rfl) rfl rfl ?_
    refine x_aload_n (x_at tdX12_regiment 57 rfl) rfl rfl ?_
    refine gfM_0_11 (x_at tdX12_regiment 58 rfl) wf_X12_21 ?_
    refine x_iload_n (x_at tdX12_regiment 59 rfl) rfl rfl ?_
    refine x_iald (lM_3 h) (x_at tdX12_regiment 60 rfl) H.1 ?_
    have H := H.2
    refine x_iast (lM_5 h) (x_at tdX12_regiment 61 rfl) H.1 ?_
    have H := H.2
    refine x_aload_n (x_at tdX12_regiment 62 rfl) rfl rfl ?_
    refine gfM_0_14 (x_at tdX12_regiment 63 rfl) wf_X12_30 ?_
    refine x_iload_n (x_at tdX12_regiment 64 rfl) rfl rfl ?_
    refine x_aload_n (x_at tdX12_regiment 65 rfl) rfl rfl ?_
    refine gfM_0_12 (x_at tdX12_regiment 66 rfl) wf_X12_24 ?_
    refine x_iload_n (x_at tdX12_regiment 67 rfl) rfl rfl ?_
    refine x_iald (lM_4 h) (x_at tdX12_regiment 68 rfl) H.1 ?_
    have H := H.2
    refine x_top (v := (S.1 4 (x1 : Int32).toNatClampNeg)) rfl ?_
    refine x_iast (lM_6 h) (x_at tdX12_regiment 69 rfl) H.1 ?_
    have H := H.2
    refine x_iinc (x_at tdX12_regiment 70 rfl) rfl (k_inc_1 _) (by decide) ?_
    refine x_goto 98 (x_at tdX12_regiment 71 rfl) rfl ?_
    refine x_weak (lv' := [(0, .ref (x_ad (gM h) 0)), (1, .int (x1 + 1))]) ⟨rfl, rfl, trivial⟩ ?_
    exact H
theorem b_M_regiment_138 {h : xH} {d : Nat}  {x1 : Int32} {S : xSt} {K : Int32 → xSt → Prop}  (H : ((6 ≤ x1 → B_M_regiment_236 h d 0 S K) ∧ (¬ 6 ≤ x1 → (vp_in x1 6 ∧ (vp_in x1 6 ∧ (vp_in x1 6 ∧ (vp_in x1 6 ∧ (vp_in x1 6 ∧ (vp_in x1 6 ∧ (vp_in x1 6 ∧ (vp_in x1 6 ∧ B_M_regiment_194 h d x1 0 (x_putI (x_putI (x_putI (x_putI S 15 (x1 : Int32).toNatClampNeg (S.1 10 (x1 : Int32).toNatClampNeg)) 16 (x1 : Int32).toNatClampNeg (S.1 11 (x1 : Int32).toNatClampNeg)) 17 (x1 : Int32).toNatClampNeg (S.1 12 (x1 : Int32).toNatClampNeg)) 18 (x1 : Int32).toNatClampNeg (S.1 13 (x1 : Int32).toNatClampNeg)) K))))))))))) : B_M_regiment_138 h d x1 S K := by
  unfold B_M_regiment_138
  refine x_iload_n (x_at tdX12_regiment 74 rfl) rfl rfl ?_
  refine x_bipush (x_at tdX12_regiment 75 rfl) k_b_6 ?_
  refine x_ic_ge 234 (x_at tdX12_regiment 76 rfl) rfl (fun c => ?_) (fun c => ?_)
  · have H := H.1 c
    refine x_iconst (x_at tdX12_regiment 134 rfl) k_c_0 ?_
    refine x_istore_n (x_at tdX12_regiment 135 rfl) rfl (by decide) ?_
    refine x_weak (lv' := [(0, .ref (x_ad (gM h) 0)), (1, .int 0)]) ⟨rfl, rfl, trivial⟩ ?_
    exact H
  · have H := H.2 c
    refine x_aload_n (x_at tdX12_regiment 77 rfl) rfl rfl ?_
    refine gfM_0_30 (x_at tdX12_regiment 78 rfl) wf_X12_57 ?_
    refine x_iload_n (x_at tdX12_regiment 79 rfl) rfl rfl ?_
    refine x_aload_n (x_at tdX12_regiment 80 rfl) rfl rfl ?_
    refine gfM_0_25 (x_at tdX12_regiment 81 rfl) wf_X12_42 ?_
    refine x_iload_n (x_at tdX12_regiment 82 rfl) rfl rfl ?_
    refine x_iald (lM_10 h) (x_at tdX12_regiment 83 rfl) H.1 ?_
    have H := H.2
    refine x_iast (lM_15 h) (x_at tdX12_regiment 84 rfl) H.1 ?_
    have H := H.2
    refine x_aload_n (x_at tdX12_regiment 85 rfl) rfl rfl ?_
    refine gfM_0_31 (x_at tdX12_regiment 86 rfl) wf_X12_60 ?_
    refine x_iload_n (x_at tdX12_regiment 87 rfl) rfl rfl ?_
    refine x_aload_n (x_at tdX12_regiment 88 rfl) rfl rfl ?_
    refine gfM_0_26 (x_at tdX12_regiment 89 rfl) wf_X12_45 ?_
    refine x_iload_n (x_at tdX12_regiment 90 rfl) rfl rfl ?_
    refine x_iald (lM_11 h) (x_at tdX12_regiment 91 rfl) H.1 ?_
    have H := H.2
    refine x_top (v := (S.1 11 (x1 : Int32).toNatClampNeg)) rfl ?_
    refine x_iast (lM_16 h) (x_at tdX12_regiment 92 rfl) H.1 ?_
    have H := H.2
    refine x_aload_n (x_at tdX12_regiment 93 rfl) rfl rfl ?_
    refine gfM_0_32 (x_at tdX12_regiment 94 rfl) wf_X12_63 ?_
    refine x_iload_n (x_at tdX12_regiment 95 rfl) rfl rfl ?_
    refine x_aload_n (x_at tdX12_regiment 96 rfl) rfl rfl ?_
    refine gfM_0_27 (x_at tdX12_regiment 97 rfl) wf_X12_48 ?_
    refine x_iload_n (x_at tdX12_regiment 98 rfl) rfl rfl ?_
    refine x_iald (lM_12 h) (x_at tdX12_regiment 99 rfl) H.1 ?_
    have H := H.2
    refine x_top (v := (S.1 12 (x1 : Int32).toNatClampNeg)) rfl ?_
    refine x_iast (lM_17 h) (x_at tdX12_regiment 100 rfl) H.1 ?_
    have H := H.2
    refine x_aload_n (x_at tdX12_regiment 101 rfl) rfl rfl ?_
    refine gfM_0_33 (x_at tdX12_regiment 102 rfl) wf_X12_66 ?_
    refine x_iload_n (x_at tdX12_regiment 103 rfl) rfl rfl ?_
    refine x_aload_n (x_at tdX12_regiment 104 rfl) rfl rfl ?_
    refine gfM_0_28 (x_at tdX12_regiment 105 rfl) wf_X12_51 ?_
    refine x_iload_n (x_at tdX12_regiment 106 rfl) rfl rfl ?_
    refine x_iald (lM_13 h) (x_at tdX12_regiment 107 rfl) H.1 ?_
    have H := H.2
    refine x_top (v := (S.1 13 (x1 : Int32).toNatClampNeg)) rfl ?_
    refine x_iast (lM_18 h) (x_at tdX12_regiment 108 rfl) H.1 ?_
    have H := H.2
    refine x_iconst (x_at tdX12_regiment 109 rfl) k_c_0 ?_
    refine x_istore_n (x_at tdX12_regiment 110 rfl) rfl (by decide) ?_
    refine x_weak (lv' := [(0, .ref (x_ad (gM h) 0)), (1, .int x1), (2, .int 0)]) ⟨rfl, rfl, rfl, trivial⟩ ?_
    exact H
theorem b_M_regiment_194 {h : xH} {d : Nat}  {x1 : Int32} {x2 : Int32} {S : xSt} {K : Int32 → xSt → Prop}  (H : ((6 ≤ x2 → B_M_regiment_138 h d (x1 + 1) S K) ∧ (¬ 6 ≤ x2 → (vp_in (((6 : Int32) * x1) + x2) 36 ∧ (vp_in (((6 : Int32) * x1) + x2) 36 ∧ B_M_regiment_194 h d x1 (x2 + 1) (x_putI S 19 ((((6 : Int32) * x1) + x2) : Int32).toNatClampNeg (S.1 14 ((((6 : Int32) * x1) + x2) : Int32).toNatClampNeg)) K))))) : B_M_regiment_194 h d x1 x2 S K := by
  unfold B_M_regiment_194
  refine x_iload_n (x_at tdX12_regiment 111 rfl) rfl rfl ?_
  refine x_bipush (x_at tdX12_regiment 112 rfl) k_b_6 ?_
  refine x_ic_ge 228 (x_at tdX12_regiment 113 rfl) rfl (fun c => ?_) (fun c => ?_)
  · have H := H.1 c
    refine x_iinc (x_at tdX12_regiment 132 rfl) rfl (k_inc_1 _) (by decide) ?_
    refine x_goto 138 (x_at tdX12_regiment 133 rfl) rfl ?_
    refine x_weak (lv' := [(0, .ref (x_ad (gM h) 0)), (1, .int (x1 + 1))]) ⟨rfl, rfl, trivial⟩ ?_
    exact H
  · have H := H.2 c
    refine x_aload_n (x_at tdX12_regiment 114 rfl) rfl rfl ?_
    refine gfM_0_34 (x_at tdX12_regiment 115 rfl) wf_X12_69 ?_
    refine x_bipush (x_at tdX12_regiment 116 rfl) k_b_6 ?_
    refine x_iload_n (x_at tdX12_regiment 117 rfl) rfl rfl ?_
    refine x_imul (x_at tdX12_regiment 118 rfl) ?_
    refine x_iload_n (x_at tdX12_regiment 119 rfl) rfl rfl ?_
    refine x_iadd (x_at tdX12_regiment 120 rfl) ?_
    refine x_aload_n (x_at tdX12_regiment 121 rfl) rfl rfl ?_
    refine gfM_0_29 (x_at tdX12_regiment 122 rfl) wf_X12_54 ?_
    refine x_bipush (x_at tdX12_regiment 123 rfl) k_b_6 ?_
    refine x_iload_n (x_at tdX12_regiment 124 rfl) rfl rfl ?_
    refine x_imul (x_at tdX12_regiment 125 rfl) ?_
    refine x_iload_n (x_at tdX12_regiment 126 rfl) rfl rfl ?_
    refine x_iadd (x_at tdX12_regiment 127 rfl) ?_
    refine x_iald (lM_14 h) (x_at tdX12_regiment 128 rfl) H.1 ?_
    have H := H.2
    refine x_iast (lM_19 h) (x_at tdX12_regiment 129 rfl) H.1 ?_
    have H := H.2
    refine x_iinc (x_at tdX12_regiment 130 rfl) rfl (k_inc_1 _) (by decide) ?_
    refine x_goto 194 (x_at tdX12_regiment 131 rfl) rfl ?_
    refine x_weak (lv' := [(0, .ref (x_ad (gM h) 0)), (1, .int x1), (2, .int (x2 + 1))]) ⟨rfl, rfl, rfl, trivial⟩ ?_
    exact H
theorem b_M_regiment_236 {h : xH} {d : Nat}  {x1 : Int32} {S : xSt} {K : Int32 → xSt → Prop}  (H : ((23 ≤ x1 → B_M_regiment_257 h d 0 S K) ∧ (¬ 23 ≤ x1 → (vp_in x1 24 ∧ B_M_regiment_236 h d (x1 + 1) (x_putI S 34 (x1 : Int32).toNatClampNeg 0) K)))) : B_M_regiment_236 h d x1 S K := by
  unfold B_M_regiment_236
  refine x_iload_n (x_at tdX12_regiment 136 rfl) rfl rfl ?_
  refine x_bipush (x_at tdX12_regiment 137 rfl) k_b_23 ?_
  refine x_ic_ge 255 (x_at tdX12_regiment 138 rfl) rfl (fun c => ?_) (fun c => ?_)
  · have H := H.1 c
    refine x_iconst (x_at tdX12_regiment 146 rfl) k_c_0 ?_
    refine x_istore_n (x_at tdX12_regiment 147 rfl) rfl (by decide) ?_
    refine x_weak (lv' := [(0, .ref (x_ad (gM h) 0)), (1, .int 0)]) ⟨rfl, rfl, trivial⟩ ?_
    exact H
  · have H := H.2 c
    refine x_aload_n (x_at tdX12_regiment 139 rfl) rfl rfl ?_
    refine gfM_0_67 (x_at tdX12_regiment 140 rfl) wf_X12_118 ?_
    refine x_iload_n (x_at tdX12_regiment 141 rfl) rfl rfl ?_
    refine x_iconst (x_at tdX12_regiment 142 rfl) k_c_0 ?_
    refine x_iast (lM_34 h) (x_at tdX12_regiment 143 rfl) H.1 ?_
    have H := H.2
    refine x_iinc (x_at tdX12_regiment 144 rfl) rfl (k_inc_1 _) (by decide) ?_
    refine x_goto 236 (x_at tdX12_regiment 145 rfl) rfl ?_
    refine x_weak (lv' := [(0, .ref (x_ad (gM h) 0)), (1, .int (x1 + 1))]) ⟨rfl, rfl, trivial⟩ ?_
    exact H
theorem b_M_regiment_257 {h : xH} {d : Nat}  {x1 : Int32} {S : xSt} {K : Int32 → xSt → Prop}  (H : ((10 ≤ x1 → B_M_regiment_413 h d 0 (x_putI (x_putI (x_putI (x_putI (x_putI S 34 21 (S.1 0 55)) 0 69 0) 0 70 0) 0 93 0) 0 85 0) K) ∧ (¬ 10 ≤ x1 → (vp_in x1 10 ∧ (vp_in x1 10 ∧ (vp_in x1 10 ∧ (vp_in x1 10 ∧ (vp_in x1 10 ∧ (vp_in x1 10 ∧ (vp_in x1 10 ∧ (vp_in x1 10 ∧ (vp_in x1 10 ∧ (vp_in x1 10 ∧ (vp_in x1 10 ∧ (vp_in x1 10 ∧ (vp_in x1 10 ∧ (vp_in x1 10 ∧ (((S.1 0 58) ≤ x1 → B_M_regiment_373 h d x1 0 ((10 : Int32) + x1) (x_putI (x_putI (x_putI (x_putI (x_putI (x_putI (x_putI S 26 (x1 : Int32).toNatClampNeg (S.1 20 (x1 : Int32).toNatClampNeg)) 27 (x1 : Int32).toNatClampNeg (S.1 21 (x1 : Int32).toNatClampNeg)) 28 (x1 : Int32).toNatClampNeg (S.1 22 (x1 : Int32).toNatClampNeg)) 33 (x1 : Int32).toNatClampNeg (vp_nar .boolean (S.1 32 (x1 : Int32).toNatClampNeg))) 29 (x1 : Int32).toNatClampNeg (S.1 23 (x1 : Int32).toNatClampNeg)) 30 (x1 : Int32).toNatClampNeg (S.1 24 (x1 : Int32).toNatClampNeg)) 31 (x1 : Int32).toNatClampNeg (S.1 25 (x1 : Int32).toNatClampNeg)) K) ∧ (¬ (S.1 0 58) ≤ x1 → (vp_in x1 10 ∧ B_M_regiment_373 h d x1 (S.1 24 (x1 : Int32).toNatClampNeg) ((10 : Int32) + x1) (x_putI (x_putI (x_putI (x_putI (x_putI (x_putI (x_putI S 26 (x1 : Int32).toNatClampNeg (S.1 20 (x1 : Int32).toNatClampNeg)) 27 (x1 : Int32).toNatClampNeg (S.1 21 (x1 : Int32).toNatClampNeg)) 28 (x1 : Int32).toNatClampNeg (S.1 22 (x1 : Int32).toNatClampNeg)) 33 (x1 : Int32).toNatClampNeg (vp_nar .boolean (S.1 32 (x1 : Int32).toNatClampNeg))) 29 (x1 : Int32).toNatClampNeg (S.1 23 (x1 : Int32).toNatClampNeg)) 30 (x1 : Int32).toNatClampNeg (S.1 24 (x1 : Int32).toNatClampNeg)) 31 (x1 : Int32).toNatClampNeg (S.1 25 (x1 : Int32).toNatClampNeg)) K)))))))))))))))))))) : B_M_regiment_257 h d x1 S K := by
  unfold B_M_regiment_257
  refine x_iload_n (x_at tdX12_regiment 148 rfl) rfl rfl ?_
  refine x_bipush (x_at tdX12_regiment 149 rfl) k_b_10 ?_
  refine x_ic_ge 380 (x_at tdX12_regiment 150 rfl) rfl (fun c => ?_) (fun c => ?_)
  · have H := H.1 c
    refine x_aload_n (x_at tdX12_regiment 225 rfl) rfl rfl ?_
    refine gfM_0_67 (x_at tdX12_regiment 226 rfl) wf_X12_118 ?_
    refine x_bipush (x_at tdX12_regiment 227 rfl) k_b_21 ?_
    refine x_aload_n (x_at tdX12_regiment 228 rfl) rfl rfl ?_
    refine gfM_0_55 (x_at tdX12_regiment 229 rfl) wf_X12_414 ?_
    refine x_iast (lM_34 h) (x_at tdX12_regiment 230 rfl) vi_21_24 ?_
    refine x_aload_n (x_at tdX12_regiment 231 rfl) rfl rfl ?_
    refine x_iconst (x_at tdX12_regiment 232 rfl) k_c_0 ?_
    refine pfM_0_69 (x_at tdX12_regiment 233 rfl) wf_X12_441 ?_
    refine x_aload_n (x_at tdX12_regiment 234 rfl) rfl rfl ?_
    refine x_iconst (x_at tdX12_regiment 235 rfl) k_c_0 ?_
    refine pfM_0_70 (x_at tdX12_regiment 236 rfl) wf_X12_444 ?_
    refine x_aload_n (x_at tdX12_regiment 237 rfl) rfl rfl ?_
    refine x_iconst (x_at tdX12_regiment 238 rfl) k_c_0 ?_
    refine pfM_0_93 (x_at tdX12_regiment 239 rfl) wf_X12_447 ?_
    refine x_aload_n (x_at tdX12_regiment 240 rfl) rfl rfl ?_
    refine x_iconst (x_at tdX12_regiment 241 rfl) k_c_0 ?_
    refine pfM_0_85 (x_at tdX12_regiment 242 rfl) wf_X12_450 ?_
    refine x_iconst (x_at tdX12_regiment 243 rfl) k_c_0 ?_
    refine x_istore_n (x_at tdX12_regiment 244 rfl) rfl (by decide) ?_
    refine x_weak (lv' := [(0, .ref (x_ad (gM h) 0)), (1, .int 0)]) ⟨rfl, rfl, trivial⟩ ?_
    exact H
  · have H := H.2 c
    refine x_aload_n (x_at tdX12_regiment 151 rfl) rfl rfl ?_
    refine gfM_0_41 (x_at tdX12_regiment 152 rfl) wf_X12_90 ?_
    refine x_iload_n (x_at tdX12_regiment 153 rfl) rfl rfl ?_
    refine x_aload_n (x_at tdX12_regiment 154 rfl) rfl rfl ?_
    refine gfM_0_35 (x_at tdX12_regiment 155 rfl) wf_X12_72 ?_
    refine x_iload_n (x_at tdX12_regiment 156 rfl) rfl rfl ?_
    refine x_iald (lM_20 h) (x_at tdX12_regiment 157 rfl) H.1 ?_
    have H := H.2
    refine x_iast (lM_26 h) (x_at tdX12_regiment 158 rfl) H.1 ?_
    have H := H.2
    refine x_aload_n (x_at tdX12_regiment 159 rfl) rfl rfl ?_
    refine gfM_0_42 (x_at tdX12_regiment 160 rfl) wf_X12_93 ?_
    refine x_iload_n (x_at tdX12_regiment 161 rfl) rfl rfl ?_
    refine x_aload_n (x_at tdX12_regiment 162 rfl) rfl rfl ?_
    refine gfM_0_36 (x_at tdX12_regiment 163 rfl) wf_X12_75 ?_
    refine x_iload_n (x_at tdX12_regiment 164 rfl) rfl rfl ?_
    refine x_iald (lM_21 h) (x_at tdX12_regiment 165 rfl) H.1 ?_
    have H := H.2
    refine x_top (v := (S.1 21 (x1 : Int32).toNatClampNeg)) rfl ?_
    refine x_iast (lM_27 h) (x_at tdX12_regiment 166 rfl) H.1 ?_
    have H := H.2
    refine x_aload_n (x_at tdX12_regiment 167 rfl) rfl rfl ?_
    refine gfM_0_43 (x_at tdX12_regiment 168 rfl) wf_X12_96 ?_
    refine x_iload_n (x_at tdX12_regiment 169 rfl) rfl rfl ?_
    refine x_aload_n (x_at tdX12_regiment 170 rfl) rfl rfl ?_
    refine gfM_0_37 (x_at tdX12_regiment 171 rfl) wf_X12_78 ?_
    refine x_iload_n (x_at tdX12_regiment 172 rfl) rfl rfl ?_
    refine x_iald (lM_22 h) (x_at tdX12_regiment 173 rfl) H.1 ?_
    have H := H.2
    refine x_top (v := (S.1 22 (x1 : Int32).toNatClampNeg)) rfl ?_
    refine x_iast (lM_28 h) (x_at tdX12_regiment 174 rfl) H.1 ?_
    have H := H.2
    refine x_aload_n (x_at tdX12_regiment 175 rfl) rfl rfl ?_
    refine gfM_0_48 (x_at tdX12_regiment 176 rfl) wf_X12_112 ?_
    refine x_iload_n (x_at tdX12_regiment 177 rfl) rfl rfl ?_
    refine x_aload_n (x_at tdX12_regiment 178 rfl) rfl rfl ?_
    refine gfM_0_47 (x_at tdX12_regiment 179 rfl) wf_X12_108 ?_
    refine x_iload_n (x_at tdX12_regiment 180 rfl) rfl rfl ?_
    refine x_zald (lM_32 h) (x_at tdX12_regiment 181 rfl) H.1 ?_
    have H := H.2
    refine x_top (v := (S.1 32 (x1 : Int32).toNatClampNeg)) rfl ?_
    refine x_zast (lM_33 h) (x_at tdX12_regiment 182 rfl) H.1 ?_
    have H := H.2
    refine x_aload_n (x_at tdX12_regiment 183 rfl) rfl rfl ?_
    refine gfM_0_44 (x_at tdX12_regiment 184 rfl) wf_X12_99 ?_
    refine x_iload_n (x_at tdX12_regiment 185 rfl) rfl rfl ?_
    refine x_aload_n (x_at tdX12_regiment 186 rfl) rfl rfl ?_
    refine gfM_0_38 (x_at tdX12_regiment 187 rfl) wf_X12_81 ?_
    refine x_iload_n (x_at tdX12_regiment 188 rfl) rfl rfl ?_
    refine x_iald (lM_23 h) (x_at tdX12_regiment 189 rfl) H.1 ?_
    have H := H.2
    refine x_top (v := (S.1 23 (x1 : Int32).toNatClampNeg)) rfl ?_
    refine x_iast (lM_29 h) (x_at tdX12_regiment 190 rfl) H.1 ?_
    have H := H.2
    refine x_aload_n (x_at tdX12_regiment 191 rfl) rfl rfl ?_
    refine gfM_0_45 (x_at tdX12_regiment 192 rfl) wf_X12_102 ?_
    refine x_iload_n (x_at tdX12_regiment 193 rfl) rfl rfl ?_
    refine x_aload_n (x_at tdX12_regiment 194 rfl) rfl rfl ?_
    refine gfM_0_39 (x_at tdX12_regiment 195 rfl) wf_X12_84 ?_
    refine x_iload_n (x_at tdX12_regiment 196 rfl) rfl rfl ?_
    refine x_iald (lM_24 h) (x_at tdX12_regiment 197 rfl) H.1 ?_
    have H := H.2
    refine x_top (v := (S.1 24 (x1 : Int32).toNatClampNeg)) rfl ?_
    refine x_iast (lM_30 h) (x_at tdX12_regiment 198 rfl) H.1 ?_
    have H := H.2
    refine x_aload_n (x_at tdX12_regiment 199 rfl) rfl rfl ?_
    refine gfM_0_46 (x_at tdX12_regiment 200 rfl) wf_X12_105 ?_
    refine x_iload_n (x_at tdX12_regiment 201 rfl) rfl rfl ?_
    refine x_aload_n (x_at tdX12_regiment 202 rfl) rfl rfl ?_
    refine gfM_0_40 (x_at tdX12_regiment 203 rfl) wf_X12_87 ?_
    refine x_iload_n (x_at tdX12_regiment 204 rfl) rfl rfl ?_
    refine x_iald (lM_25 h) (x_at tdX12_regiment 205 rfl) H.1 ?_
    have H := H.2
    refine x_top (v := (S.1 25 (x1 : Int32).toNatClampNeg)) rfl ?_
    refine x_iast (lM_31 h) (x_at tdX12_regiment 206 rfl) H.1 ?_
    have H := H.2
    refine x_aload_n (x_at tdX12_regiment 207 rfl) rfl rfl ?_
    refine gfM_0_67 (x_at tdX12_regiment 208 rfl) wf_X12_118 ?_
    refine x_bipush (x_at tdX12_regiment 209 rfl) k_b_10 ?_
    refine x_iload_n (x_at tdX12_regiment 210 rfl) rfl rfl ?_
    refine x_iadd (x_at tdX12_regiment 211 rfl) ?_
    refine x_iload_n (x_at tdX12_regiment 212 rfl) rfl rfl ?_
    refine x_aload_n (x_at tdX12_regiment 213 rfl) rfl rfl ?_
    refine gfM_0_58 (x_at tdX12_regiment 214 rfl) wf_X12_429 ?_
    refine x_top (v := (S.1 0 58)) rfl ?_
    refine x_ic_ge 372 (x_at tdX12_regiment 215 rfl) rfl (fun c => ?_) (fun c => ?_)
    · have H := H.1 c
      refine x_iconst (x_at tdX12_regiment 221 rfl) k_c_0 ?_
      refine x_weak (lv' := [(0, .ref (x_ad (gM h) 0)), (1, .int x1)]) ⟨rfl, rfl, trivial⟩ ?_
      exact H
    · have H := H.2 c
      refine x_aload_n (x_at tdX12_regiment 216 rfl) rfl rfl ?_
      refine gfM_0_39 (x_at tdX12_regiment 217 rfl) wf_X12_84 ?_
      refine x_iload_n (x_at tdX12_regiment 218 rfl) rfl rfl ?_
      refine x_iald (lM_24 h) (x_at tdX12_regiment 219 rfl) H.1 ?_
      have H := H.2
      refine x_top (v := (S.1 24 (x1 : Int32).toNatClampNeg)) rfl ?_
      refine x_goto 373 (x_at tdX12_regiment 220 rfl) rfl ?_
      refine x_weak (lv' := [(0, .ref (x_ad (gM h) 0)), (1, .int x1)]) ⟨rfl, rfl, trivial⟩ ?_
      exact H
theorem b_M_regiment_373 {h : xH} {d : Nat}  {x1 : Int32} {s0 : Int32} {s1 : Int32} {S : xSt} {K : Int32 → xSt → Prop}  (H : (vp_in s1 24 ∧ B_M_regiment_257 h d (x1 + 1) (x_putI S 34 (s1 : Int32).toNatClampNeg s0) K)) : B_M_regiment_373 h d x1 s0 s1 S K := by
  unfold B_M_regiment_373
  refine x_iast (lM_34 h) (x_at tdX12_regiment 222 rfl) H.1 ?_
  have H := H.2
  refine x_iinc (x_at tdX12_regiment 223 rfl) rfl (k_inc_1 _) (by decide) ?_
  refine x_goto 257 (x_at tdX12_regiment 224 rfl) rfl ?_
  refine x_weak (lv' := [(0, .ref (x_ad (gM h) 0)), (1, .int (x1 + 1))]) ⟨rfl, rfl, trivial⟩ ?_
  exact H
theorem b_M_regiment_413 {h : xH} {d : Nat}  {x1 : Int32} {S : xSt} {K : Int32 → xSt → Prop}  (H : ((3 ≤ x1 → K (S.1 0 58) S) ∧ (¬ 3 ≤ x1 → (vp_in x1 3 ∧ B_M_regiment_413 h d (x1 + 1) (x_putI S 50 (x1 : Int32).toNatClampNeg (vp_nar .boolean 0)) K)))) : B_M_regiment_413 h d x1 S K := by
  unfold B_M_regiment_413
  refine x_iload_n (x_at tdX12_regiment 245 rfl) rfl rfl ?_
  refine x_iconst (x_at tdX12_regiment 246 rfl) k_c_3 ?_
  refine x_ic_ge 431 (x_at tdX12_regiment 247 rfl) rfl (fun c => ?_) (fun c => ?_)
  · have H := H.1 c
    refine x_aload_n (x_at tdX12_regiment 255 rfl) rfl rfl ?_
    refine gfM_0_58 (x_at tdX12_regiment 256 rfl) wf_X12_429 ?_
    exact x_ireturn (ty := .int) rfl rfl (x_at tdX12_regiment 257 rfl) ⟨_, rfl, H⟩
  · have H := H.2 c
    refine x_aload_n (x_at tdX12_regiment 248 rfl) rfl rfl ?_
    refine gfM_0_95 (x_at tdX12_regiment 249 rfl) wf_X12_166 ?_
    refine x_iload_n (x_at tdX12_regiment 250 rfl) rfl rfl ?_
    refine x_iconst (x_at tdX12_regiment 251 rfl) k_c_0 ?_
    refine x_zast (lM_50 h) (x_at tdX12_regiment 252 rfl) H.1 ?_
    have H := H.2
    refine x_iinc (x_at tdX12_regiment 253 rfl) rfl (k_inc_1 _) (by decide) ?_
    refine x_goto 413 (x_at tdX12_regiment 254 rfl) rfl ?_
    refine x_weak (lv' := [(0, .ref (x_ad (gM h) 0)), (1, .int (x1 + 1))]) ⟨rfl, rfl, trivial⟩ ?_
    exact H
end
