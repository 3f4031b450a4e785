section
theorem e_Or_markOrders {h : xH} {d : Nat} {x1 : Int32} {x2 : Int32} {x3 : Int32} {S : xSt} {K : xSt → Prop}  (H : ((x3 < 0 → B_Or_markOrders_18 h d x1 x2 x3 S K) ∧ (¬ x3 < 0 → ((1024 ≤ x3 → B_Or_markOrders_18 h d x1 x2 x3 S K) ∧ (¬ 1024 ≤ x3 → (vp_in x3 1024 ∧ B_Or_markOrders_18 h d x1 x2 x3 (x_putI S 50 (x3 : Int32).toNatClampNeg (vp_nar .byte 1)) K)))))) : M_Or_markOrders h (d + 1) x1 x2 x3 S K := by
  refine x_enter pn_X3 (Nat.le_of_ble_eq_true rfl) ?_
  show X (gC h) _ _ 0 [(0, .ref (x_ad (gC h) 46)), (1, .int x1), (2, .int x2), (3, .int x3)] [] S _
  refine x_iload_n (x_at tdX3_markOrders 0 rfl) rfl rfl ?_
  refine x_if_lt 18 (x_at tdX3_markOrders 1 rfl) rfl (fun c => ?_) (fun c => ?_)
  · have H := H.1 c
    refine x_weak (lv' := [(0, .ref (x_ad (gC h) 46)), (1, .int x1), (2, .int x2), (3, .int x3)]) ⟨rfl, rfl, rfl, rfl, trivial⟩ ?_
    exact H
  · have H := H.2 c
    refine x_iload_n (x_at tdX3_markOrders 2 rfl) rfl rfl ?_
    refine x_sipush (x_at tdX3_markOrders 3 rfl) k_s_1024 ?_
    refine x_ic_ge 18 (x_at tdX3_markOrders 4 rfl) rfl (fun c => ?_) (fun c => ?_)
    · have H := H.1 c
      refine x_weak (lv' := [(0, .ref (x_ad (gC h) 46)), (1, .int x1), (2, .int x2), (3, .int x3)]) ⟨rfl, rfl, rfl, rfl, trivial⟩ ?_
      exact H
    · have H := H.2 c
      refine x_aload_n (x_at tdX3_markOrders 5 rfl) rfl rfl ?_
      refine gfC_46_7 (x_at tdX3_markOrders 6 rfl) wf_X3_21 ?_
      refine x_iload_n (x_at tdX3_markOrders 7 rfl) rfl rfl ?_
      refine x_iconst (x_at tdX3_markOrders 8 rfl) k_c_1 ?_
      refine x_bast (lC_50 h) (x_at tdX3_markOrders 9 rfl) H.1 ?_
      have H := H.2
      refine x_weak (lv' := [(0, .ref (x_ad (gC h) 46)), (1, .int x1), (2, .int x2), (3, .int x3)]) ⟨rfl, rfl, rfl, rfl, trivial⟩ ?_
      exact H
theorem b_Or_markOrders_18 {h : xH} {d : Nat}  {x1 : Int32} {x2 : Int32} {x3 : Int32} {S : xSt} {K : xSt → Prop}  (H : B_Or_markOrders_21 h d x1 x2 x3 0 S K) : B_Or_markOrders_18 h d x1 x2 x3 S K := by
  unfold B_Or_markOrders_18
  refine x_iconst (x_at tdX3_markOrders 10 rfl) k_c_0 ?_
  refine x_istore (x_at tdX3_markOrders 11 rfl) (by decide) ?_
  refine x_weak (lv' := [(0, .ref (x_ad (gC h) 46)), (1, .int x1), (2, .int x2), (3, .int x3), (4, .int 0)]) ⟨rfl, rfl, rfl, rfl, rfl, trivial⟩ ?_
  exact H
theorem b_Or_markOrders_21 {h : xH} {d : Nat}  {x1 : Int32} {x2 : Int32} {x3 : Int32} {x4 : Int32} {S : xSt} {K : xSt → Prop}  (H : (((S.1 2 4) ≤ x4 → K S) ∧ (¬ (S.1 2 4) ≤ x4 → ((6 ≤ x1 → K S) ∧ (¬ 6 ≤ x1 → (((x2 ||| ((1 : Int32) <<< (x4 &&& 31))) = x2 → B_Or_markOrders_70 h d x1 x2 x3 x4 (x2 ||| ((1 : Int32) <<< (x4 &&& 31))) (-1) S K) ∧ (¬ (x2 ||| ((1 : Int32) <<< (x4 &&& 31))) = x2 → (vp_in (x2 ||| ((1 : Int32) <<< (x4 &&& 31))) 64 ∧ M_Or_keptBy h (d + 1) x4 (S.1 48 ((x2 ||| ((1 : Int32) <<< (x4 &&& 31))) : Int32).toNatClampNeg) S (fun (r1 : Int32) (S1 : xSt) => B_Or_markOrders_70 h d x1 x2 x3 x4 (x2 ||| ((1 : Int32) <<< (x4 &&& 31))) r1 S1 K))))))))) : B_Or_markOrders_21 h d x1 x2 x3 x4 S K := by
  unfold B_Or_markOrders_21
  refine x_iload (x_at tdX3_markOrders 12 rfl) rfl ?_
  refine x_aload_n (x_at tdX3_markOrders 13 rfl) rfl rfl ?_
  refine gfC_46_0 (x_at tdX3_markOrders 14 rfl) wf_X3_28 ?_
  refine gfC_2_4 (x_at tdX3_markOrders 15 rfl) wf_X3_51 ?_
  refine x_ic_ge 97 (x_at tdX3_markOrders 16 rfl) rfl (fun c => ?_) (fun c => ?_)
  · have H := H.1 c
    exact x_return rfl (x_at tdX3_markOrders 53 rfl) ⟨rfl, H⟩
  · have H := H.2 c
    refine x_iload_n (x_at tdX3_markOrders 17 rfl) rfl rfl ?_
    refine x_bipush (x_at tdX3_markOrders 18 rfl) k_b_6 ?_
    refine x_ic_ge 97 (x_at tdX3_markOrders 19 rfl) rfl (fun c => ?_) (fun c => ?_)
    · have H := H.1 c
      exact x_return rfl (x_at tdX3_markOrders 53 rfl) ⟨rfl, H⟩
    · have H := H.2 c
      refine x_iload_n (x_at tdX3_markOrders 20 rfl) rfl rfl ?_
      refine x_iconst (x_at tdX3_markOrders 21 rfl) k_c_1 ?_
      refine x_iload (x_at tdX3_markOrders 22 rfl) rfl ?_
      refine x_ishl (x_at tdX3_markOrders 23 rfl) ?_
      refine x_ior (x_at tdX3_markOrders 24 rfl) ?_
      refine x_istore (x_at tdX3_markOrders 25 rfl) (by decide) ?_
      refine x_iload (x_at tdX3_markOrders 26 rfl) rfl ?_
      refine x_iload_n (x_at tdX3_markOrders 27 rfl) rfl rfl ?_
      refine x_ic_eq 69 (x_at tdX3_markOrders 28 rfl) rfl (fun c => ?_) (fun c => ?_)
      · have H := H.1 c
        refine x_iconst (x_at tdX3_markOrders 37 rfl) k_c_m1 ?_
        refine x_weak (lv' := [(0, .ref (x_ad (gC h) 46)), (1, .int x1), (2, .int x2), (3, .int x3), (4, .int x4), (5, .int (x2 ||| ((1 : Int32) <<< (x4 &&& 31))))]) ⟨rfl, rfl, rfl, rfl, rfl, rfl, trivial⟩ ?_
        exact H
      · have H := H.2 c
        refine x_aload_n (x_at tdX3_markOrders 29 rfl) rfl rfl ?_
        refine x_iload (x_at tdX3_markOrders 30 rfl) rfl ?_
        refine x_aload_n (x_at tdX3_markOrders 31 rfl) rfl rfl ?_
        refine gfC_46_5 (x_at tdX3_markOrders 32 rfl) wf_X3_15 ?_
        refine x_iload (x_at tdX3_markOrders 33 rfl) rfl ?_
        refine x_iald (lC_48 h) (x_at tdX3_markOrders 34 rfl) H.1 ?_
        have H := H.2
        refine x_cVi (as := [.int x4, .int (S.1 48 ((x2 ||| ((1 : Int32) <<< (x4 &&& 31))) : Int32).toNatClampNeg)]) (rest := []) mi_X3_keptBy vc_3 (lC_46 h) (x_at tdX3_markOrders 35 rfl) wm_X3_73 rfl (Nat.le_of_ble_eq_true rfl) rfl H (fun r1 S1 H => ?_)
        refine x_goto 70 (x_at tdX3_markOrders 36 rfl) rfl ?_
        refine x_weak (lv' := [(0, .ref (x_ad (gC h) 46)), (1, .int x1), (2, .int x2), (3, .int x3), (4, .int x4), (5, .int (x2 ||| ((1 : Int32) <<< (x4 &&& 31))))]) ⟨rfl, rfl, rfl, rfl, rfl, rfl, trivial⟩ ?_
        exact H
theorem b_Or_markOrders_70 {h : xH} {d : Nat}  {x1 : Int32} {x2 : Int32} {x3 : Int32} {x4 : Int32} {x5 : Int32} {s0 : Int32} {S : xSt} {K : xSt → Prop}  (H : ((s0 = (-1) → B_Or_markOrders_91 h d x1 x2 x3 x4 S K) ∧ (¬ s0 = (-1) → M_Or_markOrders h d (x1 + (1 : Int32)) x5 (x3 ||| s0) S (fun (S1 : xSt) => B_Or_markOrders_91 h d x1 x2 x3 x4 S1 K)))) : B_Or_markOrders_70 h d x1 x2 x3 x4 x5 s0 S K := by
  unfold B_Or_markOrders_70
  refine x_istore (x_at tdX3_markOrders 38 rfl) (by decide) ?_
  refine x_iload (x_at tdX3_markOrders 39 rfl) rfl ?_
  refine x_iconst (x_at tdX3_markOrders 40 rfl) k_c_m1 ?_
  refine x_ic_eq 91 (x_at tdX3_markOrders 41 rfl) rfl (fun c => ?_) (fun c => ?_)
  · have H := H.1 c
    refine x_weak (lv' := [(0, .ref (x_ad (gC h) 46)), (1, .int x1), (2, .int x2), (3, .int x3), (4, .int x4)]) ⟨rfl, rfl, rfl, rfl, rfl, trivial⟩ ?_
    exact H
  · have H := H.2 c
    refine x_aload_n (x_at tdX3_markOrders 42 rfl) rfl rfl ?_
    refine x_iload_n (x_at tdX3_markOrders 43 rfl) rfl rfl ?_
    refine x_iconst (x_at tdX3_markOrders 44 rfl) k_c_1 ?_
    refine x_iadd (x_at tdX3_markOrders 45 rfl) ?_
    refine x_iload (x_at tdX3_markOrders 46 rfl) rfl ?_
    refine x_iload_n (x_at tdX3_markOrders 47 rfl) rfl rfl ?_
    refine x_iload (x_at tdX3_markOrders 48 rfl) rfl ?_
    refine x_ior (x_at tdX3_markOrders 49 rfl) ?_
    refine x_cVv (as := [.int (x1 + (1 : Int32)), .int x5, .int (x3 ||| s0)]) (rest := []) mi_X3_markOrders vc_3 (lC_46 h) (x_at tdX3_markOrders 50 rfl) wm_X3_109 rfl (Nat.le_of_ble_eq_true rfl) rfl H (fun S1 H => ?_)
    refine x_weak (lv' := [(0, .ref (x_ad (gC h) 46)), (1, .int x1), (2, .int x2), (3, .int x3), (4, .int x4)]) ⟨rfl, rfl, rfl, rfl, rfl, trivial⟩ ?_
    exact H
theorem b_Or_markOrders_91 {h : xH} {d : Nat}  {x1 : Int32} {x2 : Int32} {x3 : Int32} {x4 : Int32} {S : xSt} {K : xSt → Prop}  (H : B_Or_markOrders_21 h d x1 x2 x3 (x4 + 1) S K) : B_Or_markOrders_91 h d x1 x2 x3 x4 S K := by
  unfold B_Or_markOrders_91
  refine x_iinc (x_at tdX3_markOrders 51 rfl) rfl (k_inc_1 _) (by decide) ?_
  refine x_goto 21 (x_at tdX3_markOrders 52 rfl) rfl ?_
  refine x_weak (lv' := [(0, .ref (x_ad (gC h) 46)), (1, .int x1), (2, .int x2), (3, .int x3), (4, .int (x4 + 1))]) ⟨rfl, rfl, rfl, rfl, rfl, trivial⟩ ?_
  exact H
theorem e_Or_markKeepable {h : xH} {d : Nat}  {S : xSt} {K : xSt → Prop}  (H : B_Or_markKeepable_2 h d 0 S K) : M_Or_markKeepable h d S K := by
  refine x_enter pn_X3 (Nat.le_of_ble_eq_true rfl) ?_
  show X (gC h) _ _ 0 [(0, .ref (x_ad (gC h) 46))] [] S _
  refine x_iconst (x_at tdX3_markKeepable 0 rfl) k_c_0 ?_
  refine x_istore_n (x_at tdX3_markKeepable 1 rfl) rfl (by decide) ?_
  refine x_weak (lv' := [(0, .ref (x_ad (gC h) 46)), (1, .int 0)]) ⟨rfl, rfl, trivial⟩ ?_
  exact H
theorem b_Or_markKeepable_2 {h : xH} {d : Nat}  {x1 : Int32} {S : xSt} {K : xSt → Prop}  (H : ((((1 : Int32) <<< ((S.1 2 6) &&& 31)) ≤ x1 → M_Or_markOrders h (d + 8) 0 0 0 S (fun (S1 : xSt) => B_Or_markKeepable_47 h d (((1 : Int32) <<< ((S1.1 2 6) &&& 31)) - (1 : Int32)) S1 K)) ∧ (¬ ((1 : Int32) <<< ((S.1 2 6) &&& 31)) ≤ x1 → (vp_in x1 1024 ∧ B_Or_markKeepable_2 h d (x1 + 1) (x_putI S 50 (x1 : Int32).toNatClampNeg (vp_nar .byte 0)) K)))) : B_Or_markKeepable_2 h d x1 S K := by
  unfold B_Or_markKeepable_2
  refine x_iload_n (x_at tdX3_markKeepable 2 rfl) rfl rfl ?_
  refine x_iconst (x_at tdX3_markKeepable 3 rfl) k_c_1 ?_
  refine x_aload_n (x_at tdX3_markKeepable 4 rfl) rfl rfl ?_
  refine gfC_46_0 (x_at tdX3_markKeepable 5 rfl) wf_X3_28 ?_
  refine gfC_2_6 (x_at tdX3_markKeepable 6 rfl) wf_X3_40 ?_
  refine x_ishl (x_at tdX3_markKeepable 7 rfl) ?_
  refine x_ic_ge 28 (x_at tdX3_markKeepable 8 rfl) rfl (fun c => ?_) (fun c => ?_)
  · have H := H.1 c
    refine x_aload_n (x_at tdX3_markKeepable 16 rfl) rfl rfl ?_
    refine x_iconst (x_at tdX3_markKeepable 17 rfl) k_c_0 ?_
    refine x_iconst (x_at tdX3_markKeepable 18 rfl) k_c_0 ?_
    refine x_iconst (x_at tdX3_markKeepable 19 rfl) k_c_0 ?_
    refine x_cVv (as := [.int 0, .int 0, .int 0]) (rest := []) mi_X3_markOrders vc_3 (lC_46 h) (x_at tdX3_markKeepable 20 rfl) wm_X3_109 rfl (Nat.le_of_ble_eq_true rfl) rfl H (fun S1 H => ?_)
    refine x_iconst (x_at tdX3_markKeepable 21 rfl) k_c_1 ?_
    refine x_aload_n (x_at tdX3_markKeepable 22 rfl) rfl rfl ?_
    refine gfC_46_0 (x_at tdX3_markKeepable 23 rfl) wf_X3_28 ?_
    refine gfC_2_6 (x_at tdX3_markKeepable 24 rfl) wf_X3_40 ?_
    refine x_ishl (x_at tdX3_markKeepable 25 rfl) ?_
    refine x_iconst (x_at tdX3_markKeepable 26 rfl) k_c_1 ?_
    refine x_isub (x_at tdX3_markKeepable 27 rfl) ?_
    refine x_istore_n (x_at tdX3_markKeepable 28 rfl) rfl (by decide) ?_
    refine x_weak (lv' := [(0, .ref (x_ad (gC h) 46)), (1, .int (((1 : Int32) <<< ((S1.1 2 6) &&& 31)) - (1 : Int32)))]) ⟨rfl, rfl, trivial⟩ ?_
    exact H
  · have H := H.2 c
    refine x_aload_n (x_at tdX3_markKeepable 9 rfl) rfl rfl ?_
    refine gfC_46_7 (x_at tdX3_markKeepable 10 rfl) wf_X3_21 ?_
    refine x_iload_n (x_at tdX3_markKeepable 11 rfl) rfl rfl ?_
    refine x_iconst (x_at tdX3_markKeepable 12 rfl) k_c_0 ?_
    refine x_bast (lC_50 h) (x_at tdX3_markKeepable 13 rfl) H.1 ?_
    have H := H.2
    refine x_iinc (x_at tdX3_markKeepable 14 rfl) rfl (k_inc_1 _) (by decide) ?_
    refine x_goto 2 (x_at tdX3_markKeepable 15 rfl) rfl ?_
    refine x_weak (lv' := [(0, .ref (x_ad (gC h) 46)), (1, .int (x1 + 1))]) ⟨rfl, rfl, trivial⟩ ?_
    exact H
theorem b_Or_markKeepable_47 {h : xH} {d : Nat}  {x1 : Int32} {S : xSt} {K : xSt → Prop}  (H : ((x1 ≤ 0 → K S) ∧ (¬ x1 ≤ 0 → B_Or_markKeepable_53 h d x1 0 S K))) : B_Or_markKeepable_47 h d x1 S K := by
  unfold B_Or_markKeepable_47
  refine x_iload_n (x_at tdX3_markKeepable 29 rfl) rfl rfl ?_
  refine x_if_le 99 (x_at tdX3_markKeepable 30 rfl) rfl (fun c => ?_) (fun c => ?_)
  · have H := H.1 c
    exact x_return rfl (x_at tdX3_markKeepable 59 rfl) ⟨rfl, H⟩
  · have H := H.2 c
    refine x_iconst (x_at tdX3_markKeepable 31 rfl) k_c_0 ?_
    refine x_istore_n (x_at tdX3_markKeepable 32 rfl) rfl (by decide) ?_
    refine x_weak (lv' := [(0, .ref (x_ad (gC h) 46)), (1, .int x1), (2, .int 0)]) ⟨rfl, rfl, rfl, trivial⟩ ?_
    exact H
theorem b_Or_markKeepable_53 {h : xH} {d : Nat}  {x1 : Int32} {x2 : Int32} {S : xSt} {K : xSt → Prop}  (H : (((S.1 2 6) ≤ x2 → B_Or_markKeepable_93 h d x1 S K) ∧ (¬ (S.1 2 6) ≤ x2 → (vp_in x1 1024 ∧ ((¬ (S.1 50 (x1 : Int32).toNatClampNeg) = 1 → B_Or_markKeepable_93 h d x1 S K) ∧ ((S.1 50 (x1 : Int32).toNatClampNeg) = 1 → (vp_in (x1 &&& (((1 : Int32) <<< (x2 &&& 31)) ^^^ (-1 : Int32))) 1024 ∧ B_Or_markKeepable_53 h d x1 (x2 + 1) (x_putI S 50 ((x1 &&& (((1 : Int32) <<< (x2 &&& 31)) ^^^ (-1 : Int32))) : Int32).toNatClampNeg (vp_nar .byte 1)) K))))))) : B_Or_markKeepable_53 h d x1 x2 S K := by
  unfold B_Or_markKeepable_53
  refine x_iload_n (x_at tdX3_markKeepable 33 rfl) rfl rfl ?_
  refine x_aload_n (x_at tdX3_markKeepable 34 rfl) rfl rfl ?_
  refine gfC_46_0 (x_at tdX3_markKeepable 35 rfl) wf_X3_28 ?_
  refine gfC_2_6 (x_at tdX3_markKeepable 36 rfl) wf_X3_40 ?_
  refine x_ic_ge 93 (x_at tdX3_markKeepable 37 rfl) rfl (fun c => ?_) (fun c => ?_)
  · have H := H.1 c
    refine x_weak (lv' := [(0, .ref (x_ad (gC h) 46)), (1, .int x1)]) ⟨rfl, rfl, trivial⟩ ?_
    exact H
  · have H := H.2 c
    refine x_aload_n (x_at tdX3_markKeepable 38 rfl) rfl rfl ?_
    refine gfC_46_7 (x_at tdX3_markKeepable 39 rfl) wf_X3_21 ?_
    refine x_iload_n (x_at tdX3_markKeepable 40 rfl) rfl rfl ?_
    refine x_bald (lC_50 h) (x_at tdX3_markKeepable 41 rfl) H.1 ?_
    have H := H.2
    refine x_iconst (x_at tdX3_markKeepable 42 rfl) k_c_1 ?_
    refine x_ic_ne 93 (x_at tdX3_markKeepable 43 rfl) rfl (fun c => ?_) (fun c => ?_)
    · have H := H.1 c
      refine x_weak (lv' := [(0, .ref (x_ad (gC h) 46)), (1, .int x1)]) ⟨rfl, rfl, trivial⟩ ?_
      exact H
    · have H := H.2 c
      refine x_aload_n (x_at tdX3_markKeepable 44 rfl) rfl rfl ?_
      refine gfC_46_7 (x_at tdX3_markKeepable 45 rfl) wf_X3_21 ?_
      refine x_iload_n (x_at tdX3_markKeepable 46 rfl) rfl rfl ?_
      refine x_iconst (x_at tdX3_markKeepable 47 rfl) k_c_1 ?_
      refine x_iload_n (x_at tdX3_markKeepable 48 rfl) rfl rfl ?_
      refine x_ishl (x_at tdX3_markKeepable 49 rfl) ?_
      refine x_iconst (x_at tdX3_markKeepable 50 rfl) k_c_m1 ?_
      refine x_ixor (x_at tdX3_markKeepable 51 rfl) ?_
      refine x_iand (x_at tdX3_markKeepable 52 rfl) ?_
      refine x_iconst (x_at tdX3_markKeepable 53 rfl) k_c_1 ?_
      refine x_bast (lC_50 h) (x_at tdX3_markKeepable 54 rfl) H.1 ?_
      have H := H.2
      refine x_iinc (x_at tdX3_markKeepable 55 rfl) rfl (k_inc_1 _) (by decide) ?_
      refine x_goto 53 (x_at tdX3_markKeepable 56 rfl) rfl ?_
      refine x_weak (lv' := [(0, .ref (x_ad (gC h) 46)), (1, .int x1), (2, .int (x2 + 1))]) ⟨rfl, rfl, rfl, trivial⟩ ?_
      exact H
theorem b_Or_markKeepable_93 {h : xH} {d : Nat}  {x1 : Int32} {S : xSt} {K : xSt → Prop}  (H : B_Or_markKeepable_47 h d (x1 + (-1)) S K) : B_Or_markKeepable_93 h d x1 S K := by
  unfold B_Or_markKeepable_93
  refine x_iinc (x_at tdX3_markKeepable 57 rfl) rfl (k_inc_m1 _) (by decide) ?_
  refine x_goto 47 (x_at tdX3_markKeepable 58 rfl) rfl ?_
  refine x_weak (lv' := [(0, .ref (x_ad (gC h) 46)), (1, .int (x1 + (-1)))]) ⟨rfl, rfl, trivial⟩ ?_
  exact H
theorem e_Or_smallestClash {h : xH} {d : Nat} {x1 : Int32} {S : xSt} {K : Int32 → xSt → Prop}  (H : M_Or_markKeepable h d (x_putI S 46 4 x1) (fun (S1 : xSt) => B_Or_smallestClash_13 h d 0 0 S1 K)) : M_Or_smallestClash h d x1 S K := by
  refine x_enter pn_X3 (Nat.le_of_ble_eq_true rfl) ?_
  show X (gC h) _ _ 0 [(0, .ref (x_ad (gC h) 46)), (1, .int x1)] [] S _
  refine x_aload_n (x_at tdX3_smallestClash 0 rfl) rfl rfl ?_
  refine x_iload_n (x_at tdX3_smallestClash 1 rfl) rfl rfl ?_
  refine pfC_46_4 (x_at tdX3_smallestClash 2 rfl) wf_X3_57 ?_
  refine x_aload_n (x_at tdX3_smallestClash 3 rfl) rfl rfl ?_
  refine x_cVv (as := []) (rest := []) mi_X3_markKeepable vc_3 (lC_46 h) (x_at tdX3_smallestClash 4 rfl) wm_X3_106 rfl (Nat.le_of_ble_eq_true rfl) rfl H (fun S1 H => ?_)
  refine x_iconst (x_at tdX3_smallestClash 5 rfl) k_c_0 ?_
  refine x_istore_n (x_at tdX3_smallestClash 6 rfl) rfl (by decide) ?_
  refine x_iconst (x_at tdX3_smallestClash 7 rfl) k_c_0 ?_
  refine x_istore_n (x_at tdX3_smallestClash 8 rfl) rfl (by decide) ?_
  refine x_weak (lv' := [(0, .ref (x_ad (gC h) 46)), (2, .int 0), (3, .int 0)]) ⟨rfl, rfl, rfl, trivial⟩ ?_
  exact H
theorem b_Or_smallestClash_13 {h : xH} {d : Nat}  {x2 : Int32} {x3 : Int32} {S : xSt} {K : Int32 → xSt → Prop}  (H : (((S.1 46 3) ≤ x3 → B_Or_smallestClash_65 h d x2 (-1) 1 S K) ∧ (¬ (S.1 46 3) ≤ x3 → (vp_in x3 10 ∧ (vp_in (S.1 47 (x3 : Int32).toNatClampNeg) 10 ∧ ((¬ (S.1 10 ((S.1 47 (x3 : Int32).toNatClampNeg) : Int32).toNatClampNeg) = 1 → B_Or_smallestClash_52 h d x3 0 x2 S K) ∧ ((S.1 10 ((S.1 47 (x3 : Int32).toNatClampNeg) : Int32).toNatClampNeg) = 1 → (vp_in x3 10 ∧ B_Or_smallestClash_52 h d x3 ((1 : Int32) <<< ((S.1 47 (x3 : Int32).toNatClampNeg) &&& 31)) x2 S K)))))))) : B_Or_smallestClash_13 h d x2 x3 S K := by
  unfold B_Or_smallestClash_13
  refine x_iload_n (x_at tdX3_smallestClash 9 rfl) rfl rfl ?_
  refine x_aload_n (x_at tdX3_smallestClash 10 rfl) rfl rfl ?_
  refine gfC_46_3 (x_at tdX3_smallestClash 11 rfl) wf_X3_36 ?_
  refine x_ic_ge 60 (x_at tdX3_smallestClash 12 rfl) rfl (fun c => ?_) (fun c => ?_)
  · have H := H.1 c
    refine x_iconst (x_at tdX3_smallestClash 36 rfl) k_c_m1 ?_
    refine x_istore_n (x_at tdX3_smallestClash 37 rfl) rfl (by decide) ?_
    refine x_iconst (x_at tdX3_smallestClash 38 rfl) k_c_1 ?_
    refine x_istore (x_at tdX3_smallestClash 39 rfl) (by decide) ?_
    refine x_weak (lv' := [(0, .ref (x_ad (gC h) 46)), (2, .int x2), (3, .int (-1)), (4, .int 1)]) ⟨rfl, rfl, rfl, rfl, trivial⟩ ?_
    exact H
  · have H := H.2 c
    refine x_iload_n (x_at tdX3_smallestClash 13 rfl) rfl rfl ?_
    refine x_aload_n (x_at tdX3_smallestClash 14 rfl) rfl rfl ?_
    refine gfC_46_0 (x_at tdX3_smallestClash 15 rfl) wf_X3_28 ?_
    refine gfC_2_10 (x_at tdX3_smallestClash 16 rfl) wf_X3_91 ?_
    refine x_aload_n (x_at tdX3_smallestClash 17 rfl) rfl rfl ?_
    refine gfC_46_2 (x_at tdX3_smallestClash 18 rfl) wf_X3_9 ?_
    refine x_iload_n (x_at tdX3_smallestClash 19 rfl) rfl rfl ?_
    refine x_iald (lC_47 h) (x_at tdX3_smallestClash 20 rfl) H.1 ?_
    have H := H.2
    refine x_iald (lC_10 h) (x_at tdX3_smallestClash 21 rfl) H.1 ?_
    have H := H.2
    refine x_iconst (x_at tdX3_smallestClash 22 rfl) k_c_1 ?_
    refine x_ic_ne 51 (x_at tdX3_smallestClash 23 rfl) rfl (fun c => ?_) (fun c => ?_)
    · have H := H.1 c
      refine x_iconst (x_at tdX3_smallestClash 31 rfl) k_c_0 ?_
      refine x_weak (lv' := [(0, .ref (x_ad (gC h) 46)), (3, .int x3)]) ⟨rfl, rfl, trivial⟩ ?_
      exact H
    · have H := H.2 c
      refine x_iconst (x_at tdX3_smallestClash 24 rfl) k_c_1 ?_
      refine x_aload_n (x_at tdX3_smallestClash 25 rfl) rfl rfl ?_
      refine gfC_46_2 (x_at tdX3_smallestClash 26 rfl) wf_X3_9 ?_
      refine x_iload_n (x_at tdX3_smallestClash 27 rfl) rfl rfl ?_
      refine x_iald (lC_47 h) (x_at tdX3_smallestClash 28 rfl) H.1 ?_
      have H := H.2
      refine x_ishl (x_at tdX3_smallestClash 29 rfl) ?_
      refine x_goto 52 (x_at tdX3_smallestClash 30 rfl) rfl ?_
      refine x_weak (lv' := [(0, .ref (x_ad (gC h) 46)), (3, .int x3)]) ⟨rfl, rfl, trivial⟩ ?_
      exact H
theorem b_Or_smallestClash_52 {h : xH} {d : Nat}  {x3 : Int32} {s0 : Int32} {s1 : Int32} {S : xSt} {K : Int32 → xSt → Prop}  (H : B_Or_smallestClash_13 h d (s1 ||| s0) (x3 + 1) S K) : B_Or_smallestClash_52 h d x3 s0 s1 S K := by
  unfold B_Or_smallestClash_52
  refine x_ior (x_at tdX3_smallestClash 32 rfl) ?_
  refine x_istore_n (x_at tdX3_smallestClash 33 rfl) rfl (by decide) ?_
  refine x_iinc (x_at tdX3_smallestClash 34 rfl) rfl (k_inc_1 _) (by decide) ?_
  refine x_goto 13 (x_at tdX3_smallestClash 35 rfl) rfl ?_
  refine x_weak (lv' := [(0, .ref (x_ad (gC h) 46)), (2, .int (s1 ||| s0)), (3, .int (x3 + 1))]) ⟨rfl, rfl, rfl, trivial⟩ ?_
  exact H
theorem b_Or_smallestClash_65 {h : xH} {d : Nat}  {x2 : Int32} {x3 : Int32} {x4 : Int32} {S : xSt} {K : Int32 → xSt → Prop}  (H : ((((1 : Int32) <<< ((S.1 2 6) &&& 31)) ≤ x4 → K x3 S) ∧ (¬ ((1 : Int32) <<< ((S.1 2 6) &&& 31)) ≤ x4 → ((¬ (x4 &&& (x2 ^^^ (-1 : Int32))) = 0 → B_Or_smallestClash_118 h d x2 x3 x4 S K) ∧ ((x4 &&& (x2 ^^^ (-1 : Int32))) = 0 → (vp_in x4 1024 ∧ ((¬ (S.1 50 (x4 : Int32).toNatClampNeg) = 0 → B_Or_smallestClash_118 h d x2 x3 x4 S K) ∧ ((S.1 50 (x4 : Int32).toNatClampNeg) = 0 → ((x3 = (-1) → B_Or_smallestClash_115 h d x2 x4 S K) ∧ (¬ x3 = (-1) → M_Jint_bitCount_0f7a4 h (d + 10) x4 S (fun (r1 : Int32) (S1 : xSt) => M_Jint_bitCount_0f7a4 h (d + 10) x3 S1 (fun (r2 : Int32) (S2 : xSt) => ((r2 ≤ r1 → B_Or_smallestClash_118 h d x2 x3 x4 S2 K) ∧ (¬ r2 ≤ r1 → B_Or_smallestClash_115 h d x2 x4 S2 K)))))))))))))) : B_Or_smallestClash_65 h d x2 x3 x4 S K := by
  unfold B_Or_smallestClash_65
  refine x_iload (x_at tdX3_smallestClash 40 rfl) rfl ?_
  refine x_iconst (x_at tdX3_smallestClash 41 rfl) k_c_1 ?_
  refine x_aload_n (x_at tdX3_smallestClash 42 rfl) rfl rfl ?_
  refine gfC_46_0 (x_at tdX3_smallestClash 43 rfl) wf_X3_28 ?_
  refine gfC_2_6 (x_at tdX3_smallestClash 44 rfl) wf_X3_40 ?_
  refine x_ishl (x_at tdX3_smallestClash 45 rfl) ?_
  refine x_ic_ge 124 (x_at tdX3_smallestClash 46 rfl) rfl (fun c => ?_) (fun c => ?_)
  · have H := H.1 c
    refine x_iload_n (x_at tdX3_smallestClash 70 rfl) rfl rfl ?_
    exact x_ireturn (ty := .int) rfl rfl (x_at tdX3_smallestClash 71 rfl) ⟨_, rfl, H⟩
  · have H := H.2 c
    refine x_iload (x_at tdX3_smallestClash 47 rfl) rfl ?_
    refine x_iload_n (x_at tdX3_smallestClash 48 rfl) rfl rfl ?_
    refine x_iconst (x_at tdX3_smallestClash 49 rfl) k_c_m1 ?_
    refine x_ixor (x_at tdX3_smallestClash 50 rfl) ?_
    refine x_iand (x_at tdX3_smallestClash 51 rfl) ?_
    refine x_if_ne 118 (x_at tdX3_smallestClash 52 rfl) rfl (fun c => ?_) (fun c => ?_)
    · have H := H.1 c
      refine x_weak (lv' := [(0, .ref (x_ad (gC h) 46)), (2, .int x2), (3, .int x3), (4, .int x4)]) ⟨rfl, rfl, rfl, rfl, trivial⟩ ?_
      exact H
    · have H := H.2 c
      refine x_aload_n (x_at tdX3_smallestClash 53 rfl) rfl rfl ?_
      refine gfC_46_7 (x_at tdX3_smallestClash 54 rfl) wf_X3_21 ?_
      refine x_iload (x_at tdX3_smallestClash 55 rfl) rfl ?_
      refine x_bald (lC_50 h) (x_at tdX3_smallestClash 56 rfl) H.1 ?_
      have H := H.2
      refine x_if_ne 118 (x_at tdX3_smallestClash 57 rfl) rfl (fun c => ?_) (fun c => ?_)
      · have H := H.1 c
        refine x_weak (lv' := [(0, .ref (x_ad (gC h) 46)), (2, .int x2), (3, .int x3), (4, .int x4)]) ⟨rfl, rfl, rfl, rfl, trivial⟩ ?_
        exact H
      · have H := H.2 c
        refine x_iload_n (x_at tdX3_smallestClash 58 rfl) rfl rfl ?_
        refine x_iconst (x_at tdX3_smallestClash 59 rfl) k_c_m1 ?_
        refine x_ic_eq 115 (x_at tdX3_smallestClash 60 rfl) rfl (fun c => ?_) (fun c => ?_)
        · have H := H.1 c
          refine x_weak (lv' := [(0, .ref (x_ad (gC h) 46)), (2, .int x2), (4, .int x4)]) ⟨rfl, rfl, rfl, trivial⟩ ?_
          exact H
        · have H := H.2 c
          refine x_iload (x_at tdX3_smallestClash 61 rfl) rfl ?_
          refine x_cSi (as := [.int x4]) (rest := []) mi_J6_bitCount_0f7a4 (x_at tdX3_smallestClash 62 rfl) wm_X3_76 rfl (Nat.le_of_ble_eq_true rfl) rfl H (fun r1 S1 H => ?_)
          refine x_iload_n (x_at tdX3_smallestClash 63 rfl) rfl rfl ?_
          refine x_cSi (as := [.int x3]) (rest := [.int r1]) mi_J6_bitCount_0f7a4 (x_at tdX3_smallestClash 64 rfl) wm_X3_76 rfl (Nat.le_of_ble_eq_true rfl) rfl H (fun r2 S2 H => ?_)
          refine x_ic_ge 118 (x_at tdX3_smallestClash 65 rfl) rfl (fun c => ?_) (fun c => ?_)
          · have H := H.1 c
            refine x_weak (lv' := [(0, .ref (x_ad (gC h) 46)), (2, .int x2), (3, .int x3), (4, .int x4)]) ⟨rfl, rfl, rfl, rfl, trivial⟩ ?_
            exact H
          · have H := H.2 c
            refine x_weak (lv' := [(0, .ref (x_ad (gC h) 46)), (2, .int x2), (4, .int x4)]) ⟨rfl, rfl, rfl, trivial⟩ ?_
            exact H
theorem b_Or_smallestClash_115 {h : xH} {d : Nat}  {x2 : Int32} {x4 : Int32} {S : xSt} {K : Int32 → xSt → Prop}  (H : B_Or_smallestClash_118 h d x2 x4 x4 S K) : B_Or_smallestClash_115 h d x2 x4 S K := by
  unfold B_Or_smallestClash_115
  refine x_iload (x_at tdX3_smallestClash 66 rfl) rfl ?_
  refine x_istore_n (x_at tdX3_smallestClash 67 rfl) rfl (by decide) ?_
  refine x_weak (lv' := [(0, .ref (x_ad (gC h) 46)), (2, .int x2), (3, .int x4), (4, .int x4)]) ⟨rfl, rfl, rfl, rfl, trivial⟩ ?_
  exact H
theorem b_Or_smallestClash_118 {h : xH} {d : Nat}  {x2 : Int32} {x3 : Int32} {x4 : Int32} {S : xSt} {K : Int32 → xSt → Prop}  (H : B_Or_smallestClash_65 h d x2 x3 (x4 + 1) S K) : B_Or_smallestClash_118 h d x2 x3 x4 S K := by
  unfold B_Or_smallestClash_118
  refine x_iinc (x_at tdX3_smallestClash 68 rfl) rfl (k_inc_1 _) (by decide) ?_
  refine x_goto 65 (x_at tdX3_smallestClash 69 rfl) rfl ?_
  refine x_weak (lv' := [(0, .ref (x_ad (gC h) 46)), (2, .int x2), (3, .int x3), (4, .int (x4 + 1))]) ⟨rfl, rfl, rfl, rfl, trivial⟩ ?_
  exact H
theorem e_O_clash {h : xH} {d : Nat} {x1 : Int32} {x2 : Int32} {S : xSt} {K : Int32 → xSt → Prop}  (H : M_Rg_hasMan_2 h (d + 11) x1 S (fun (r1 : Int32) (S1 : xSt) => ((r1 = 0 → K (-1) S1) ∧ (¬ r1 = 0 → ((x2 < 0 → K (-1) S1) ∧ (¬ x2 < 0 → ((x2 ≤ 1 → M_Or_lookAt h (d + 10) x1 S1 (fun (S2 : xSt) => M_Co_today h (d + 11) S2 (fun (r3 : Int32) (S3 : xSt) => M_Or_smallestClash h d r3 S3 (fun (r4 : Int32) (S4 : xSt) => ((¬ r4 = (-1) → ((¬ x2 = 0 → K r4 S4) ∧ (x2 = 0 → M_Jint_bitCount_0f7a4 h (d + 11) r4 S4 (fun (r5 : Int32) (S5 : xSt) => K r5 S5)))) ∧ (r4 = (-1) → K (-1) S4)))))) ∧ (¬ x2 ≤ 1 → K (-1) S1)))))))) : M_O_clash h d x1 x2 S K := by
  refine x_enter pn_X11 (Nat.le_of_ble_eq_true rfl) ?_
  show X (gC h) _ _ 0 [(0, .ref (x_ad (gC h) 0)), (1, .int x1), (2, .int x2)] [] S _
  refine x_aload_n (x_at tdX11_clash 0 rfl) rfl rfl ?_
  refine gfC_0_2 (x_at tdX11_clash 1 rfl) wf_X11_16 ?_
  refine x_iload_n (x_at tdX11_clash 2 rfl) rfl rfl ?_
  refine x_cVi (as := [.int x1]) (rest := []) mi_X5_hasMan vc_5 (lC_2 h) (x_at tdX11_clash 3 rfl) wm_X11_158 rfl (Nat.le_of_ble_eq_true rfl) rfl H (fun r1 S1 H => ?_)
  refine x_if_eq 20 (x_at tdX11_clash 4 rfl) rfl (fun c => ?_) (fun c => ?_)
  · have H := H.1 c
    refine x_iconst (x_at tdX11_clash 10 rfl) k_c_m1 ?_
    exact x_ireturn (ty := .int) rfl rfl (x_at tdX11_clash 11 rfl) ⟨_, rfl, H⟩
  · have H := H.2 c
    refine x_iload_n (x_at tdX11_clash 5 rfl) rfl rfl ?_
    refine x_if_lt 20 (x_at tdX11_clash 6 rfl) rfl (fun c => ?_) (fun c => ?_)
    · have H := H.1 c
      refine x_iconst (x_at tdX11_clash 10 rfl) k_c_m1 ?_
      exact x_ireturn (ty := .int) rfl rfl (x_at tdX11_clash 11 rfl) ⟨_, rfl, H⟩
    · have H := H.2 c
      refine x_iload_n (x_at tdX11_clash 7 rfl) rfl rfl ?_
      refine x_iconst (x_at tdX11_clash 8 rfl) k_c_1 ?_
      refine x_ic_le 22 (x_at tdX11_clash 9 rfl) rfl (fun c => ?_) (fun c => ?_)
      · have H := H.1 c
        refine x_aload_n (x_at tdX11_clash 12 rfl) rfl rfl ?_
        refine gfC_0_6 (x_at tdX11_clash 13 rfl) wf_X11_50 ?_
        refine x_iload_n (x_at tdX11_clash 14 rfl) rfl rfl ?_
        refine x_cVv (as := [.int x1]) (rest := []) mi_X3_lookAt vc_3 (lC_46 h) (x_at tdX11_clash 15 rfl) wm_X11_209 rfl (Nat.le_of_ble_eq_true rfl) rfl H (fun S2 H => ?_)
        refine x_aload_n (x_at tdX11_clash 16 rfl) rfl rfl ?_
        refine gfC_0_6 (x_at tdX11_clash 17 rfl) wf_X11_50 ?_
        refine x_aload_n (x_at tdX11_clash 18 rfl) rfl rfl ?_
        refine gfC_0_4 (x_at tdX11_clash 19 rfl) wf_X11_32 ?_
        refine x_cVi (as := []) (rest := [.ref (x_ad (gC h) 46)]) mi_X0_today vc_0 (lC_41 h) (x_at tdX11_clash 20 rfl) wm_X11_196 rfl (Nat.le_of_ble_eq_true rfl) rfl H (fun r3 S3 H => ?_)
        refine x_cVi (as := [.int r3]) (rest := []) mi_X3_smallestClash vc_3 (lC_46 h) (x_at tdX11_clash 21 rfl) wm_X11_246 rfl (Nat.le_of_ble_eq_true rfl) rfl H (fun r4 S4 H => ?_)
        refine x_istore_n (x_at tdX11_clash 22 rfl) rfl (by decide) ?_
        refine x_iload_n (x_at tdX11_clash 23 rfl) rfl rfl ?_
        refine x_iconst (x_at tdX11_clash 24 rfl) k_c_m1 ?_
        refine x_ic_ne 52 (x_at tdX11_clash 25 rfl) rfl (fun c => ?_) (fun c => ?_)
        · have H := H.1 c
          refine x_iload_n (x_at tdX11_clash 28 rfl) rfl rfl ?_
          refine x_if_ne 63 (x_at tdX11_clash 29 rfl) rfl (fun c => ?_) (fun c => ?_)
          · have H := H.1 c
            refine x_iload_n (x_at tdX11_clash 33 rfl) rfl rfl ?_
            exact x_ireturn (ty := .int) rfl rfl (x_at tdX11_clash 34 rfl) ⟨_, rfl, H⟩
          · have H := H.2 c
            refine x_iload_n (x_at tdX11_clash 30 rfl) rfl rfl ?_
            refine x_cSi (as := [.int r4]) (rest := []) mi_J6_bitCount_0f7a4 (x_at tdX11_clash 31 rfl) wm_X11_231 rfl (Nat.le_of_ble_eq_true rfl) rfl H (fun r5 S5 H => ?_)
            refine x_goto 64 (x_at tdX11_clash 32 rfl) rfl ?_
            exact x_ireturn (ty := .int) rfl rfl (x_at tdX11_clash 34 rfl) ⟨_, rfl, H⟩
        · have H := H.2 c
          refine x_iconst (x_at tdX11_clash 26 rfl) k_c_m1 ?_
          exact x_ireturn (ty := .int) rfl rfl (x_at tdX11_clash 27 rfl) ⟨_, rfl, H⟩
      · have H := H.2 c
        refine x_iconst (x_at tdX11_clash 10 rfl) k_c_m1 ?_
        exact x_ireturn (ty := .int) rfl rfl (x_at tdX11_clash 11 rfl) ⟨_, rfl, H⟩
theorem e_Co_leaveBits {h : xH} {d : Nat} {x1 : Int32} {x2 : Int32} {S : xSt} {K : Int32 → xSt → Prop}  (H : B_Co_leaveBits_13 h d x1 x2 0 ((S.1 2 6) - (1 : Int32)) S K) : M_Co_leaveBits h d x1 x2 S K := by
  refine x_enter pn_X0 (Nat.le_of_ble_eq_true rfl) ?_
  show X (gC h) _ _ 0 [(0, .ref (x_ad (gC h) 41)), (1, .int x1), (2, .int x2)] [] S _
  refine x_iconst (x_at tdX0_leaveBits 0 rfl) k_c_0 ?_
  refine x_istore_n (x_at tdX0_leaveBits 1 rfl) rfl (by decide) ?_
  refine x_aload_n (x_at tdX0_leaveBits 2 rfl) rfl rfl ?_
  refine gfC_41_0 (x_at tdX0_leaveBits 3 rfl) wf_X0_15 ?_
  refine gfC_2_6 (x_at tdX0_leaveBits 4 rfl) wf_X0_41 ?_
  refine x_iconst (x_at tdX0_leaveBits 5 rfl) k_c_1 ?_
  refine x_isub (x_at tdX0_leaveBits 6 rfl) ?_
  refine x_istore (x_at tdX0_leaveBits 7 rfl) (by decide) ?_
  refine x_weak (lv' := [(0, .ref (x_ad (gC h) 41)), (1, .int x1), (2, .int x2), (3, .int 0), (4, .int ((S.1 2 6) - (1 : Int32)))]) ⟨rfl, rfl, rfl, rfl, rfl, trivial⟩ ?_
  exact H
theorem b_Co_leaveBits_13 {h : xH} {d : Nat}  {x1 : Int32} {x2 : Int32} {x3 : Int32} {x4 : Int32} {S : xSt} {K : Int32 → xSt → Prop}  (H : ((x4 < 0 → K x3 S) ∧ (¬ x4 < 0 → M_Co_isOnMan h (d + 1) x4 x1 S (fun (r1 : Int32) (S1 : xSt) => ((r1 = 0 → B_Co_leaveBits_79 h d x1 x2 x3 x4 S1 K) ∧ (¬ r1 = 0 → (vp_in x4 10 ∧ ((¬ (S1.1 9 (x4 : Int32).toNatClampNeg) = x2 → B_Co_leaveBits_79 h d x1 x2 x3 x4 S1 K) ∧ ((S1.1 9 (x4 : Int32).toNatClampNeg) = x2 → (vp_in x4 10 ∧ ((¬ (S1.1 10 (x4 : Int32).toNatClampNeg) = 0 → B_Co_leaveBits_79 h d x1 x2 x3 x4 S1 K) ∧ ((S1.1 10 (x4 : Int32).toNatClampNeg) = 0 → (vp_in x4 10 ∧ M_Co_today h (d + 1) S1 (fun (r2 : Int32) (S2 : xSt) => (((S1.1 11 (x4 : Int32).toNatClampNeg) < r2 → B_Co_leaveBits_79 h d x1 x2 x3 x4 S2 K) ∧ (¬ (S1.1 11 (x4 : Int32).toNatClampNeg) < r2 → B_Co_leaveBits_79 h d x1 x2 (x3 ||| ((1 : Int32) <<< (x4 &&& 31))) x4 S2 K)))))))))))))))) : B_Co_leaveBits_13 h d x1 x2 x3 x4 S K := by
  unfold B_Co_leaveBits_13
  refine x_iload (x_at tdX0_leaveBits 8 rfl) rfl ?_
  refine x_if_lt 118 (x_at tdX0_leaveBits 9 rfl) rfl (fun c => ?_) (fun c => ?_)
  · have H := H.1 c
    refine x_iload_n (x_at tdX0_leaveBits 64 rfl) rfl rfl ?_
    exact x_ireturn (ty := .int) rfl rfl (x_at tdX0_leaveBits 65 rfl) ⟨_, rfl, H⟩
  · have H := H.2 c
    refine x_aload_n (x_at tdX0_leaveBits 10 rfl) rfl rfl ?_
    refine x_iload (x_at tdX0_leaveBits 11 rfl) rfl ?_
    refine x_iload_n (x_at tdX0_leaveBits 12 rfl) rfl rfl ?_
    refine x_cVi (as := [.int x4, .int x1]) (rest := []) mi_X0_isOnMan vc_0 (lC_41 h) (x_at tdX0_leaveBits 13 rfl) wm_X0_44 rfl (Nat.le_of_ble_eq_true rfl) rfl H (fun r1 S1 H => ?_)
    refine x_if_eq 79 (x_at tdX0_leaveBits 14 rfl) rfl (fun c => ?_) (fun c => ?_)
    · have H := H.1 c
      refine x_weak (lv' := [(0, .ref (x_ad (gC h) 41)), (1, .int x1), (2, .int x2), (3, .int x3), (4, .int x4)]) ⟨rfl, rfl, rfl, rfl, rfl, trivial⟩ ?_
      exact H
    · have H := H.2 c
      refine x_aload_n (x_at tdX0_leaveBits 15 rfl) rfl rfl ?_
      refine gfC_41_0 (x_at tdX0_leaveBits 16 rfl) wf_X0_15 ?_
      refine gfC_2_9 (x_at tdX0_leaveBits 17 rfl) wf_X0_48 ?_
      refine x_iload (x_at tdX0_leaveBits 18 rfl) rfl ?_
      refine x_iald (lC_9 h) (x_at tdX0_leaveBits 19 rfl) H.1 ?_
      have H := H.2
      refine x_iload_n (x_at tdX0_leaveBits 20 rfl) rfl rfl ?_
      refine x_ic_ne 79 (x_at tdX0_leaveBits 21 rfl) rfl (fun c => ?_) (fun c => ?_)
      · have H := H.1 c
        refine x_weak (lv' := [(0, .ref (x_ad (gC h) 41)), (1, .int x1), (2, .int x2), (3, .int x3), (4, .int x4)]) ⟨rfl, rfl, rfl, rfl, rfl, trivial⟩ ?_
        exact H
      · have H := H.2 c
        refine x_aload_n (x_at tdX0_leaveBits 22 rfl) rfl rfl ?_
        refine gfC_41_0 (x_at tdX0_leaveBits 23 rfl) wf_X0_15 ?_
        refine gfC_2_10 (x_at tdX0_leaveBits 24 rfl) wf_X0_51 ?_
        refine x_iload (x_at tdX0_leaveBits 25 rfl) rfl ?_
        refine x_iald (lC_10 h) (x_at tdX0_leaveBits 26 rfl) H.1 ?_
        have H := H.2
        refine x_if_ne 79 (x_at tdX0_leaveBits 27 rfl) rfl (fun c => ?_) (fun c => ?_)
        · have H := H.1 c
          refine x_weak (lv' := [(0, .ref (x_ad (gC h) 41)), (1, .int x1), (2, .int x2), (3, .int x3), (4, .int x4)]) ⟨rfl, rfl, rfl, rfl, rfl, trivial⟩ ?_
          exact H
        · have H := H.2 c
          refine x_aload_n (x_at tdX0_leaveBits 28 rfl) rfl rfl ?_
          refine gfC_41_0 (x_at tdX0_leaveBits 29 rfl) wf_X0_15 ?_
          refine gfC_2_11 (x_at tdX0_leaveBits 30 rfl) wf_X0_109 ?_
          refine x_iload (x_at tdX0_leaveBits 31 rfl) rfl ?_
          refine x_iald (lC_11 h) (x_at tdX0_leaveBits 32 rfl) H.1 ?_
          have H := H.2
          refine x_aload_n (x_at tdX0_leaveBits 33 rfl) rfl rfl ?_
          refine x_cVi (as := []) (rest := [.int (S1.1 11 (x4 : Int32).toNatClampNeg)]) mi_X0_today vc_0 (lC_41 h) (x_at tdX0_leaveBits 34 rfl) wm_X0_68 rfl (Nat.le_of_ble_eq_true rfl) rfl H (fun r2 S2 H => ?_)
          refine x_ic_lt 79 (x_at tdX0_leaveBits 35 rfl) rfl (fun c => ?_) (fun c => ?_)
          · have H := H.1 c
            refine x_weak (lv' := [(0, .ref (x_ad (gC h) 41)), (1, .int x1), (2, .int x2), (3, .int x3), (4, .int x4)]) ⟨rfl, rfl, rfl, rfl, rfl, trivial⟩ ?_
            exact H
          · have H := H.2 c
            refine x_iload_n (x_at tdX0_leaveBits 36 rfl) rfl rfl ?_
            refine x_iconst (x_at tdX0_leaveBits 37 rfl) k_c_1 ?_
            refine x_iload (x_at tdX0_leaveBits 38 rfl) rfl ?_
            refine x_ishl (x_at tdX0_leaveBits 39 rfl) ?_
            refine x_ior (x_at tdX0_leaveBits 40 rfl) ?_
            refine x_istore_n (x_at tdX0_leaveBits 41 rfl) rfl (by decide) ?_
            refine x_weak (lv' := [(0, .ref (x_ad (gC h) 41)), (1, .int x1), (2, .int x2), (3, .int (x3 ||| ((1 : Int32) <<< (x4 &&& 31)))), (4, .int x4)]) ⟨rfl, rfl, rfl, rfl, rfl, trivial⟩ ?_
            exact H
theorem b_Co_leaveBits_79 {h : xH} {d : Nat}  {x1 : Int32} {x2 : Int32} {x3 : Int32} {x4 : Int32} {S : xSt} {K : Int32 → xSt → Prop}  (H : (((x3 &&& ((1 : Int32) <<< (x4 &&& 31))) = 0 → B_Co_leaveBits_112 h d x1 x2 x3 x4 S K) ∧ (¬ (x3 &&& ((1 : Int32) <<< (x4 &&& 31))) = 0 → M_Co_waits h d x4 S (fun (r1 : Int32) (S1 : xSt) => ((r1 = 0 → B_Co_leaveBits_112 h d x1 x2 x3 x4 S1 K) ∧ (¬ r1 = 0 → (vp_in x4 10 ∧ B_Co_leaveBits_112 h d x1 x2 (x3 ||| ((1 : Int32) <<< ((S1.1 13 (x4 : Int32).toNatClampNeg) &&& 31))) x4 S1 K))))))) : B_Co_leaveBits_79 h d x1 x2 x3 x4 S K := by
  unfold B_Co_leaveBits_79
  refine x_iload_n (x_at tdX0_leaveBits 42 rfl) rfl rfl ?_
  refine x_iconst (x_at tdX0_leaveBits 43 rfl) k_c_1 ?_
  refine x_iload (x_at tdX0_leaveBits 44 rfl) rfl ?_
  refine x_ishl (x_at tdX0_leaveBits 45 rfl) ?_
  refine x_iand (x_at tdX0_leaveBits 46 rfl) ?_
  refine x_if_eq 112 (x_at tdX0_leaveBits 47 rfl) rfl (fun c => ?_) (fun c => ?_)
  · have H := H.1 c
    refine x_weak (lv' := [(0, .ref (x_ad (gC h) 41)), (1, .int x1), (2, .int x2), (3, .int x3), (4, .int x4)]) ⟨rfl, rfl, rfl, rfl, rfl, trivial⟩ ?_
    exact H
  · have H := H.2 c
    refine x_aload_n (x_at tdX0_leaveBits 48 rfl) rfl rfl ?_
    refine x_iload (x_at tdX0_leaveBits 49 rfl) rfl ?_
    refine x_cVi (as := [.int x4]) (rest := []) mi_X0_waits vc_0 (lC_41 h) (x_at tdX0_leaveBits 50 rfl) wm_X0_112 rfl (Nat.le_of_ble_eq_true rfl) rfl H (fun r1 S1 H => ?_)
    refine x_if_eq 112 (x_at tdX0_leaveBits 51 rfl) rfl (fun c => ?_) (fun c => ?_)
    · have H := H.1 c
      refine x_weak (lv' := [(0, .ref (x_ad (gC h) 41)), (1, .int x1), (2, .int x2), (3, .int x3), (4, .int x4)]) ⟨rfl, rfl, rfl, rfl, rfl, trivial⟩ ?_
      exact H
    · have H := H.2 c
      refine x_iload_n (x_at tdX0_leaveBits 52 rfl) rfl rfl ?_
      refine x_iconst (x_at tdX0_leaveBits 53 rfl) k_c_1 ?_
      refine x_aload_n (x_at tdX0_leaveBits 54 rfl) rfl rfl ?_
      refine gfC_41_0 (x_at tdX0_leaveBits 55 rfl) wf_X0_15 ?_
      refine gfC_2_13 (x_at tdX0_leaveBits 56 rfl) wf_X0_31 ?_
      refine x_iload (x_at tdX0_leaveBits 57 rfl) rfl ?_
      refine x_iald (lC_13 h) (x_at tdX0_leaveBits 58 rfl) H.1 ?_
      have H := H.2
      refine x_ishl (x_at tdX0_leaveBits 59 rfl) ?_
      refine x_ior (x_at tdX0_leaveBits 60 rfl) ?_
      refine x_istore_n (x_at tdX0_leaveBits 61 rfl) rfl (by decide) ?_
      refine x_weak (lv' := [(0, .ref (x_ad (gC h) 41)), (1, .int x1), (2, .int x2), (3, .int (x3 ||| ((1 : Int32) <<< ((S1.1 13 (x4 : Int32).toNatClampNeg) &&& 31)))), (4, .int x4)]) ⟨rfl, rfl, rfl, rfl, rfl, trivial⟩ ?_
      exact H
theorem b_Co_leaveBits_112 {h : xH} {d : Nat}  {x1 : Int32} {x2 : Int32} {x3 : Int32} {x4 : Int32} {S : xSt} {K : Int32 → xSt → Prop}  (H : B_Co_leaveBits_13 h d x1 x2 x3 (x4 + (-1)) S K) : B_Co_leaveBits_112 h d x1 x2 x3 x4 S K := by
  unfold B_Co_leaveBits_112
  refine x_iinc (x_at tdX0_leaveBits 62 rfl) rfl (k_inc_m1 _) (by decide) ?_
  refine x_goto 13 (x_at tdX0_leaveBits 63 rfl) rfl ?_
  refine x_weak (lv' := [(0, .ref (x_ad (gC h) 41)), (1, .int x1), (2, .int x2), (3, .int x3), (4, .int (x4 + (-1)))]) ⟨rfl, rfl, rfl, rfl, rfl, trivial⟩ ?_
  exact H
theorem e_O_leave {h : xH} {d : Nat} {x1 : Int32} {x2 : Int32} {S : xSt} {K : Int32 → xSt → Prop}  (H : M_Rg_hasMan_2 h (d + 2) x1 (x_putI S 0 11 0) (fun (r1 : Int32) (S1 : xSt) => ((r1 = 0 → K (-1) S1) ∧ (¬ r1 = 0 → M_Rg_hasDeed_2 h (d + 2) x2 S1 (fun (r2 : Int32) (S2 : xSt) => ((¬ r2 = 0 → M_Co_leaveBits h d x1 x2 S2 (fun (r3 : Int32) (S3 : xSt) => B_O_leave_42 h d r3 0 S3 K)) ∧ (r2 = 0 → K (-1) S2))))))) : M_O_leave h d x1 x2 S K := by
  refine x_enter pn_X11 (Nat.le_of_ble_eq_true rfl) ?_
  show X (gC h) _ _ 0 [(0, .ref (x_ad (gC h) 0)), (1, .int x1), (2, .int x2)] [] S _
  refine x_aload_n (x_at tdX11_leave 0 rfl) rfl rfl ?_
  refine x_iconst (x_at tdX11_leave 1 rfl) k_c_0 ?_
  refine pfC_0_11 (x_at tdX11_leave 2 rfl) wf_X11_123 ?_
  refine x_aload_n (x_at tdX11_leave 3 rfl) rfl rfl ?_
  refine gfC_0_2 (x_at tdX11_leave 4 rfl) wf_X11_16 ?_
  refine x_iload_n (x_at tdX11_leave 5 rfl) rfl rfl ?_
  refine x_cVi (as := [.int x1]) (rest := []) mi_X5_hasMan vc_5 (lC_2 h) (x_at tdX11_leave 6 rfl) wm_X11_158 rfl (Nat.le_of_ble_eq_true rfl) rfl H (fun r1 S1 H => ?_)
  refine x_if_eq 27 (x_at tdX11_leave 7 rfl) rfl (fun c => ?_) (fun c => ?_)
  · have H := H.1 c
    refine x_iconst (x_at tdX11_leave 13 rfl) k_c_m1 ?_
    exact x_ireturn (ty := .int) rfl rfl (x_at tdX11_leave 14 rfl) ⟨_, rfl, H⟩
  · have H := H.2 c
    refine x_aload_n (x_at tdX11_leave 8 rfl) rfl rfl ?_
    refine gfC_0_2 (x_at tdX11_leave 9 rfl) wf_X11_16 ?_
    refine x_iload_n (x_at tdX11_leave 10 rfl) rfl rfl ?_
    refine x_cVi (as := [.int x2]) (rest := []) mi_X5_hasDeed vc_5 (lC_2 h) (x_at tdX11_leave 11 rfl) wm_X11_167 rfl (Nat.le_of_ble_eq_true rfl) rfl H (fun r2 S2 H => ?_)
    refine x_if_ne 29 (x_at tdX11_leave 12 rfl) rfl (fun c => ?_) (fun c => ?_)
    · have H := H.1 c
      refine x_aload_n (x_at tdX11_leave 15 rfl) rfl rfl ?_
      refine gfC_0_4 (x_at tdX11_leave 16 rfl) wf_X11_32 ?_
      refine x_iload_n (x_at tdX11_leave 17 rfl) rfl rfl ?_
      refine x_iload_n (x_at tdX11_leave 18 rfl) rfl rfl ?_
      refine x_cVi (as := [.int x1, .int x2]) (rest := []) mi_X0_leaveBits vc_0 (lC_41 h) (x_at tdX11_leave 19 rfl) wm_X11_249 rfl (Nat.le_of_ble_eq_true rfl) rfl H (fun r3 S3 H => ?_)
      refine x_istore_n (x_at tdX11_leave 20 rfl) rfl (by decide) ?_
      refine x_iconst (x_at tdX11_leave 21 rfl) k_c_0 ?_
      refine x_istore (x_at tdX11_leave 22 rfl) (by decide) ?_
      refine x_weak (lv' := [(0, .ref (x_ad (gC h) 0)), (3, .int r3), (4, .int 0)]) ⟨rfl, rfl, rfl, trivial⟩ ?_
      exact H
    · have H := H.2 c
      refine x_iconst (x_at tdX11_leave 13 rfl) k_c_m1 ?_
      exact x_ireturn (ty := .int) rfl rfl (x_at tdX11_leave 14 rfl) ⟨_, rfl, H⟩
theorem b_O_leave_42 {h : xH} {d : Nat}  {x3 : Int32} {x4 : Int32} {S : xSt} {K : Int32 → xSt → Prop}  (H : (((S.1 2 6) ≤ x4 → K (S.1 0 11) S) ∧ (¬ (S.1 2 6) ≤ x4 → (((x3 &&& ((1 : Int32) <<< (x4 &&& 31))) = 0 → B_O_leave_69 h d x3 x4 S K) ∧ (¬ (x3 &&& ((1 : Int32) <<< (x4 &&& 31))) = 0 → M_O_layDown h (d + 2) x4 S (fun (S1 : xSt) => B_O_leave_69 h d x3 x4 S1 K)))))) : B_O_leave_42 h d x3 x4 S K := by
  unfold B_O_leave_42
  refine x_iload (x_at tdX11_leave 23 rfl) rfl ?_
  refine x_aload_n (x_at tdX11_leave 24 rfl) rfl rfl ?_
  refine gfC_0_2 (x_at tdX11_leave 25 rfl) wf_X11_16 ?_
  refine gfC_2_6 (x_at tdX11_leave 26 rfl) wf_X11_126 ?_
  refine x_ic_ge 75 (x_at tdX11_leave 27 rfl) rfl (fun c => ?_) (fun c => ?_)
  · have H := H.1 c
    refine x_aload_n (x_at tdX11_leave 39 rfl) rfl rfl ?_
    refine gfC_0_11 (x_at tdX11_leave 40 rfl) wf_X11_123 ?_
    exact x_ireturn (ty := .int) rfl rfl (x_at tdX11_leave 41 rfl) ⟨_, rfl, H⟩
  · have H := H.2 c
    refine x_iload_n (x_at tdX11_leave 28 rfl) rfl rfl ?_
    refine x_iconst (x_at tdX11_leave 29 rfl) k_c_1 ?_
    refine x_iload (x_at tdX11_leave 30 rfl) rfl ?_
    refine x_ishl (x_at tdX11_leave 31 rfl) ?_
    refine x_iand (x_at tdX11_leave 32 rfl) ?_
    refine x_if_eq 69 (x_at tdX11_leave 33 rfl) rfl (fun c => ?_) (fun c => ?_)
    · have H := H.1 c
      refine x_weak (lv' := [(0, .ref (x_ad (gC h) 0)), (3, .int x3), (4, .int x4)]) ⟨rfl, rfl, rfl, trivial⟩ ?_
      exact H
    · have H := H.2 c
      refine x_aload_n (x_at tdX11_leave 34 rfl) rfl rfl ?_
      refine x_iload (x_at tdX11_leave 35 rfl) rfl ?_
      refine x_cVv (as := [.int x4]) (rest := []) mi_X11_layDown vc_11 (lC_0 h) (x_at tdX11_leave 36 rfl) wm_X11_252 rfl (Nat.le_of_ble_eq_true rfl) rfl H (fun S1 H => ?_)
      refine x_weak (lv' := [(0, .ref (x_ad (gC h) 0)), (3, .int x3), (4, .int x4)]) ⟨rfl, rfl, rfl, trivial⟩ ?_
      exact H
theorem b_O_leave_69 {h : xH} {d : Nat}  {x3 : Int32} {x4 : Int32} {S : xSt} {K : Int32 → xSt → Prop}  (H : B_O_leave_42 h d x3 (x4 + 1) S K) : B_O_leave_69 h d x3 x4 S K := by
  unfold B_O_leave_69
  refine x_iinc (x_at tdX11_leave 37 rfl) rfl (k_inc_1 _) (by decide) ?_
  refine x_goto 42 (x_at tdX11_leave 38 rfl) rfl ?_
  refine x_weak (lv' := [(0, .ref (x_ad (gC h) 0)), (3, .int x3), (4, .int (x4 + 1))]) ⟨rfl, rfl, rfl, trivial⟩ ?_
  exact H
theorem e_O_asked {h : xH} {d : Nat} {x1 : Int32} {x2 : Int32} {S : xSt} {K : Int32 → xSt → Prop}  (H : M_Rg_hasMan_2 h (d + 2) x1 S (fun (r1 : Int32) (S1 : xSt) => ((r1 = 0 → K (-1) S1) ∧ (¬ r1 = 0 → M_Rg_hasDeed_2 h (d + 2) x2 S1 (fun (r2 : Int32) (S2 : xSt) => ((¬ r2 = 0 → M_Co_leaveBits h d x1 x2 S2 (fun (r3 : Int32) (S3 : xSt) => B_O_asked_40 h d r3 0 0 S3 K)) ∧ (r2 = 0 → K (-1) S2))))))) : M_O_asked h d x1 x2 S K := by
  refine x_enter pn_X11 (Nat.le_of_ble_eq_true rfl) ?_
  show X (gC h) _ _ 0 [(0, .ref (x_ad (gC h) 0)), (1, .int x1), (2, .int x2)] [] S _
  refine x_aload_n (x_at tdX11_asked 0 rfl) rfl rfl ?_
  refine gfC_0_2 (x_at tdX11_asked 1 rfl) wf_X11_16 ?_
  refine x_iload_n (x_at tdX11_asked 2 rfl) rfl rfl ?_
  refine x_cVi (as := [.int x1]) (rest := []) mi_X5_hasMan vc_5 (lC_2 h) (x_at tdX11_asked 3 rfl) wm_X11_158 rfl (Nat.le_of_ble_eq_true rfl) rfl H (fun r1 S1 H => ?_)
  refine x_if_eq 22 (x_at tdX11_asked 4 rfl) rfl (fun c => ?_) (fun c => ?_)
  · have H := H.1 c
    refine x_iconst (x_at tdX11_asked 10 rfl) k_c_m1 ?_
    exact x_ireturn (ty := .int) rfl rfl (x_at tdX11_asked 11 rfl) ⟨_, rfl, H⟩
  · have H := H.2 c
    refine x_aload_n (x_at tdX11_asked 5 rfl) rfl rfl ?_
    refine gfC_0_2 (x_at tdX11_asked 6 rfl) wf_X11_16 ?_
    refine x_iload_n (x_at tdX11_asked 7 rfl) rfl rfl ?_
    refine x_cVi (as := [.int x2]) (rest := []) mi_X5_hasDeed vc_5 (lC_2 h) (x_at tdX11_asked 8 rfl) wm_X11_167 rfl (Nat.le_of_ble_eq_true rfl) rfl H (fun r2 S2 H => ?_)
    refine x_if_ne 24 (x_at tdX11_asked 9 rfl) rfl (fun c => ?_) (fun c => ?_)
    · have H := H.1 c
      refine x_aload_n (x_at tdX11_asked 12 rfl) rfl rfl ?_
      refine gfC_0_4 (x_at tdX11_asked 13 rfl) wf_X11_32 ?_
      refine x_iload_n (x_at tdX11_asked 14 rfl) rfl rfl ?_
      refine x_iload_n (x_at tdX11_asked 15 rfl) rfl rfl ?_
      refine x_cVi (as := [.int x1, .int x2]) (rest := []) mi_X0_leaveBits vc_0 (lC_41 h) (x_at tdX11_asked 16 rfl) wm_X11_249 rfl (Nat.le_of_ble_eq_true rfl) rfl H (fun r3 S3 H => ?_)
      refine x_istore_n (x_at tdX11_asked 17 rfl) rfl (by decide) ?_
      refine x_iconst (x_at tdX11_asked 18 rfl) k_c_0 ?_
      refine x_istore (x_at tdX11_asked 19 rfl) (by decide) ?_
      refine x_iconst (x_at tdX11_asked 20 rfl) k_c_0 ?_
      refine x_istore (x_at tdX11_asked 21 rfl) (by decide) ?_
      refine x_weak (lv' := [(0, .ref (x_ad (gC h) 0)), (3, .int r3), (4, .int 0), (5, .int 0)]) ⟨rfl, rfl, rfl, rfl, trivial⟩ ?_
      exact H
    · have H := H.2 c
      refine x_iconst (x_at tdX11_asked 10 rfl) k_c_m1 ?_
      exact x_ireturn (ty := .int) rfl rfl (x_at tdX11_asked 11 rfl) ⟨_, rfl, H⟩
theorem b_O_asked_40 {h : xH} {d : Nat}  {x3 : Int32} {x4 : Int32} {x5 : Int32} {S : xSt} {K : Int32 → xSt → Prop}  (H : (((S.1 2 6) ≤ x5 → K x4 S) ∧ (¬ (S.1 2 6) ≤ x5 → (((x3 &&& ((1 : Int32) <<< (x5 &&& 31))) = 0 → B_O_asked_78 h d x3 x4 x5 S K) ∧ (¬ (x3 &&& ((1 : Int32) <<< (x5 &&& 31))) = 0 → (vp_in x5 10 ∧ B_O_asked_78 h d x3 (x4 ||| ((1 : Int32) <<< ((S.1 8 (x5 : Int32).toNatClampNeg) &&& 31))) x5 S K)))))) : B_O_asked_40 h d x3 x4 x5 S K := by
  unfold B_O_asked_40
  refine x_iload (x_at tdX11_asked 22 rfl) rfl ?_
  refine x_aload_n (x_at tdX11_asked 23 rfl) rfl rfl ?_
  refine gfC_0_2 (x_at tdX11_asked 24 rfl) wf_X11_16 ?_
  refine gfC_2_6 (x_at tdX11_asked 25 rfl) wf_X11_126 ?_
  refine x_ic_ge 84 (x_at tdX11_asked 26 rfl) rfl (fun c => ?_) (fun c => ?_)
  · have H := H.1 c
    refine x_iload (x_at tdX11_asked 45 rfl) rfl ?_
    exact x_ireturn (ty := .int) rfl rfl (x_at tdX11_asked 46 rfl) ⟨_, rfl, H⟩
  · have H := H.2 c
    refine x_iload_n (x_at tdX11_asked 27 rfl) rfl rfl ?_
    refine x_iconst (x_at tdX11_asked 28 rfl) k_c_1 ?_
    refine x_iload (x_at tdX11_asked 29 rfl) rfl ?_
    refine x_ishl (x_at tdX11_asked 30 rfl) ?_
    refine x_iand (x_at tdX11_asked 31 rfl) ?_
    refine x_if_eq 78 (x_at tdX11_asked 32 rfl) rfl (fun c => ?_) (fun c => ?_)
    · have H := H.1 c
      refine x_weak (lv' := [(0, .ref (x_ad (gC h) 0)), (3, .int x3), (4, .int x4), (5, .int x5)]) ⟨rfl, rfl, rfl, rfl, trivial⟩ ?_
      exact H
    · have H := H.2 c
      refine x_iload (x_at tdX11_asked 33 rfl) rfl ?_
      refine x_iconst (x_at tdX11_asked 34 rfl) k_c_1 ?_
      refine x_aload_n (x_at tdX11_asked 35 rfl) rfl rfl ?_
      refine gfC_0_2 (x_at tdX11_asked 36 rfl) wf_X11_16 ?_
      refine gfC_2_8 (x_at tdX11_asked 37 rfl) wf_X11_143 ?_
      refine x_iload (x_at tdX11_asked 38 rfl) rfl ?_
      refine x_iald (lC_8 h) (x_at tdX11_asked 39 rfl) H.1 ?_
      have H := H.2
      refine x_ishl (x_at tdX11_asked 40 rfl) ?_
      refine x_ior (x_at tdX11_asked 41 rfl) ?_
      refine x_istore (x_at tdX11_asked 42 rfl) (by decide) ?_
      refine x_weak (lv' := [(0, .ref (x_ad (gC h) 0)), (3, .int x3), (4, .int (x4 ||| ((1 : Int32) <<< ((S.1 8 (x5 : Int32).toNatClampNeg) &&& 31)))), (5, .int x5)]) ⟨rfl, rfl, rfl, rfl, trivial⟩ ?_
      exact H
theorem b_O_asked_78 {h : xH} {d : Nat}  {x3 : Int32} {x4 : Int32} {x5 : Int32} {S : xSt} {K : Int32 → xSt → Prop}  (H : B_O_asked_40 h d x3 x4 (x5 + 1) S K) : B_O_asked_78 h d x3 x4 x5 S K := by
  unfold B_O_asked_78
  refine x_iinc (x_at tdX11_asked 43 rfl) rfl (k_inc_1 _) (by decide) ?_
  refine x_goto 40 (x_at tdX11_asked 44 rfl) rfl ?_
  refine x_weak (lv' := [(0, .ref (x_ad (gC h) 0)), (3, .int x3), (4, .int x4), (5, .int (x5 + 1))]) ⟨rfl, rfl, rfl, rfl, trivial⟩ ?_
  exact H
theorem e_Th_threadBehind {h : xH} {d : Nat} {x1 : Int32} {x2 : Int32} {x3 : Int64} {S : xSt} {K : Int32 → xSt → Prop}  (H : M_Co_threadOf h (d + 3) x1 S (fun (r1 : Int32) (S1 : xSt) => B_Th_threadBehind_13 h d x1 x2 x3 r1 0 S1 K)) : M_Th_threadBehind h d x1 x2 x3 S K := by
  refine x_enter pn_X6 (Nat.le_of_ble_eq_true rfl) ?_
  show X (gC h) _ _ 0 [(0, .ref (x_ad (gC h) 52)), (1, .int x1), (2, .int x2), (3, .long x3)] [] S _
  refine x_aload_n (x_at tdX6_threadBehind 0 rfl) rfl rfl ?_
  refine gfC_52_1 (x_at tdX6_threadBehind 1 rfl) wf_X6_15 ?_
  refine x_iload_n (x_at tdX6_threadBehind 2 rfl) rfl rfl ?_
  refine x_cVi (as := [.int x1]) (rest := []) mi_X0_threadOf vc_0 (lC_41 h) (x_at tdX6_threadBehind 3 rfl) wm_X6_19 rfl (Nat.le_of_ble_eq_true rfl) rfl H (fun r1 S1 H => ?_)
  refine x_istore (x_at tdX6_threadBehind 4 rfl) (by decide) ?_
  refine x_iconst (x_at tdX6_threadBehind 5 rfl) k_c_0 ?_
  refine x_istore (x_at tdX6_threadBehind 6 rfl) (by decide) ?_
  refine x_weak (lv' := [(0, .ref (x_ad (gC h) 52)), (1, .int x1), (2, .int x2), (3, .long x3), (5, .int r1), (6, .int 0)]) ⟨rfl, rfl, rfl, rfl, rfl, rfl, trivial⟩ ?_
  exact H
theorem b_Th_threadBehind_13 {h : xH} {d : Nat}  {x1 : Int32} {x2 : Int32} {x3 : Int64} {x5 : Int32} {x6 : Int32} {S : xSt} {K : Int32 → xSt → Prop}  (H : ((x2 ≤ x6 → K x5 S) ∧ (¬ x2 ≤ x6 → M_Co_today h (d + 3) S (fun (r1 : Int32) (S1 : xSt) => M_Co_worn h d x1 x5 (((x3 >>> ((x6 : Int32).toInt64 &&& 63)) &&& (1 : Int64)) : Int64).toInt32 (r1 + x6) S1 (fun (r2 : Int32) (S2 : xSt) => B_Th_threadBehind_13 h d x1 x2 x3 r2 (x6 + 1) S2 K))))) : B_Th_threadBehind_13 h d x1 x2 x3 x5 x6 S K := by
  unfold B_Th_threadBehind_13
  refine x_iload (x_at tdX6_threadBehind 7 rfl) rfl ?_
  refine x_iload_n (x_at tdX6_threadBehind 8 rfl) rfl rfl ?_
  refine x_ic_ge 58 (x_at tdX6_threadBehind 9 rfl) rfl (fun c => ?_) (fun c => ?_)
  · have H := H.1 c
    refine x_iload (x_at tdX6_threadBehind 31 rfl) rfl ?_
    exact x_ireturn (ty := .int) rfl rfl (x_at tdX6_threadBehind 32 rfl) ⟨_, rfl, H⟩
  · have H := H.2 c
    refine x_lload_n (x_at tdX6_threadBehind 10 rfl) rfl rfl ?_
    refine x_iload (x_at tdX6_threadBehind 11 rfl) rfl ?_
    refine x_lshr (x_at tdX6_threadBehind 12 rfl) ?_
    refine x_lconst (v := 1) (x_at tdX6_threadBehind 13 rfl) rfl ?_
    refine x_land (x_at tdX6_threadBehind 14 rfl) ?_
    refine x_l2i (x_at tdX6_threadBehind 15 rfl) ?_
    refine x_istore (x_at tdX6_threadBehind 16 rfl) (by decide) ?_
    refine x_aload_n (x_at tdX6_threadBehind 17 rfl) rfl rfl ?_
    refine gfC_52_1 (x_at tdX6_threadBehind 18 rfl) wf_X6_15 ?_
    refine x_iload_n (x_at tdX6_threadBehind 19 rfl) rfl rfl ?_
    refine x_iload (x_at tdX6_threadBehind 20 rfl) rfl ?_
    refine x_iload (x_at tdX6_threadBehind 21 rfl) rfl ?_
    refine x_aload_n (x_at tdX6_threadBehind 22 rfl) rfl rfl ?_
    refine gfC_52_1 (x_at tdX6_threadBehind 23 rfl) wf_X6_15 ?_
    refine x_cVi (as := []) (rest := [.int (((x3 >>> ((x6 : Int32).toInt64 &&& 63)) &&& (1 : Int64)) : Int64).toInt32, .int x5, .int x1, .ref (x_ad (gC h) 41)]) mi_X0_today vc_0 (lC_41 h) (x_at tdX6_threadBehind 24 rfl) wm_X6_25 rfl (Nat.le_of_ble_eq_true rfl) rfl H (fun r1 S1 H => ?_)
    refine x_iload (x_at tdX6_threadBehind 25 rfl) rfl ?_
    refine x_iadd (x_at tdX6_threadBehind 26 rfl) ?_
    refine x_cVi (as := [.int x1, .int x5, .int (((x3 >>> ((x6 : Int32).toInt64 &&& 63)) &&& (1 : Int64)) : Int64).toInt32, .int (r1 + x6)]) (rest := []) mi_X0_worn vc_0 (lC_41 h) (x_at tdX6_threadBehind 27 rfl) wm_X6_29 rfl (Nat.le_of_ble_eq_true rfl) rfl H (fun r2 S2 H => ?_)
    refine x_istore (x_at tdX6_threadBehind 28 rfl) (by decide) ?_
    refine x_iinc (x_at tdX6_threadBehind 29 rfl) rfl (k_inc_1 _) (by decide) ?_
    refine x_goto 13 (x_at tdX6_threadBehind 30 rfl) rfl ?_
    refine x_weak (lv' := [(0, .ref (x_ad (gC h) 52)), (1, .int x1), (2, .int x2), (3, .long x3), (5, .int r2), (6, .int (x6 + 1))]) ⟨rfl, rfl, rfl, rfl, rfl, rfl, trivial⟩ ?_
    exact H
theorem e_O_holds {h : xH} {d : Nat} {x1 : Int32} {x2 : Int32} {x3 : Int32} {S : xSt} {K : Int32 → xSt → Prop}  (H : M_O_isButtonOn h (d + 3) x1 S (fun (r1 : Int32) (S1 : xSt) => ((r1 = 0 → K (-1) S1) ∧ (¬ r1 = 0 → ((x2 < 0 → K (-1) S1) ∧ (¬ x2 < 0 → ((60 < x2 → K (-1) S1) ∧ (¬ 60 < x2 → ((x3 < 0 → K (-1) S1) ∧ (¬ x3 < 0 → ((x3 ≤ 1 → ((¬ x3 = 0 → M_Th_threadBehind h d x1 x2 (-1) S1 (fun (r2 : Int32) (S2 : xSt) => K r2 S2)) ∧ (x3 = 0 → M_Th_threadBehind h d x1 x2 0 S1 (fun (r3 : Int32) (S3 : xSt) => K r3 S3)))) ∧ (¬ x3 ≤ 1 → K (-1) S1)))))))))))) : M_O_holds h d x1 x2 x3 S K := by
  refine x_enter pn_X11 (Nat.le_of_ble_eq_true rfl) ?_
  show X (gC h) _ _ 0 [(0, .ref (x_ad (gC h) 0)), (1, .int x1), (2, .int x2), (3, .int x3)] [] S _
  refine x_aload_n (x_at tdX11_holds 0 rfl) rfl rfl ?_
  refine x_iload_n (x_at tdX11_holds 1 rfl) rfl rfl ?_
  refine x_cVi (as := [.int x1]) (rest := []) mi_X11_isButtonOn vc_11 (lC_0 h) (x_at tdX11_holds 2 rfl) wm_X11_177 rfl (Nat.le_of_ble_eq_true rfl) rfl H (fun r1 S1 H => ?_)
  refine x_if_eq 27 (x_at tdX11_holds 3 rfl) rfl (fun c => ?_) (fun c => ?_)
  · have H := H.1 c
    refine x_iconst (x_at tdX11_holds 14 rfl) k_c_m1 ?_
    exact x_ireturn (ty := .int) rfl rfl (x_at tdX11_holds 15 rfl) ⟨_, rfl, H⟩
  · have H := H.2 c
    refine x_iload_n (x_at tdX11_holds 4 rfl) rfl rfl ?_
    refine x_if_lt 27 (x_at tdX11_holds 5 rfl) rfl (fun c => ?_) (fun c => ?_)
    · have H := H.1 c
      refine x_iconst (x_at tdX11_holds 14 rfl) k_c_m1 ?_
      exact x_ireturn (ty := .int) rfl rfl (x_at tdX11_holds 15 rfl) ⟨_, rfl, H⟩
    · have H := H.2 c
      refine x_iload_n (x_at tdX11_holds 6 rfl) rfl rfl ?_
      refine x_bipush (x_at tdX11_holds 7 rfl) k_b_60 ?_
      refine x_ic_gt 27 (x_at tdX11_holds 8 rfl) rfl (fun c => ?_) (fun c => ?_)
      · have H := H.1 c
        refine x_iconst (x_at tdX11_holds 14 rfl) k_c_m1 ?_
        exact x_ireturn (ty := .int) rfl rfl (x_at tdX11_holds 15 rfl) ⟨_, rfl, H⟩
      · have H := H.2 c
        refine x_iload_n (x_at tdX11_holds 9 rfl) rfl rfl ?_
        refine x_if_lt 27 (x_at tdX11_holds 10 rfl) rfl (fun c => ?_) (fun c => ?_)
        · have H := H.1 c
          refine x_iconst (x_at tdX11_holds 14 rfl) k_c_m1 ?_
          exact x_ireturn (ty := .int) rfl rfl (x_at tdX11_holds 15 rfl) ⟨_, rfl, H⟩
        · have H := H.2 c
          refine x_iload_n (x_at tdX11_holds 11 rfl) rfl rfl ?_
          refine x_iconst (x_at tdX11_holds 12 rfl) k_c_1 ?_
          refine x_ic_le 29 (x_at tdX11_holds 13 rfl) rfl (fun c => ?_) (fun c => ?_)
          · have H := H.1 c
            refine x_aload_n (x_at tdX11_holds 16 rfl) rfl rfl ?_
            refine gfC_0_7 (x_at tdX11_holds 17 rfl) wf_X11_57 ?_
            refine x_iload_n (x_at tdX11_holds 18 rfl) rfl rfl ?_
            refine x_iload_n (x_at tdX11_holds 19 rfl) rfl rfl ?_
            refine x_iload_n (x_at tdX11_holds 20 rfl) rfl rfl ?_
            refine x_if_ne 43 (x_at tdX11_holds 21 rfl) rfl (fun c => ?_) (fun c => ?_)
            · have H := H.1 c
              refine x_ldc2 (x_at tdX11_holds 24 rfl) wk_X11_255 ?_
              refine x_cVi (as := [.int x1, .int x2, .long (-1)]) (rest := []) mi_X6_threadBehind vc_6 (lC_52 h) (x_at tdX11_holds 25 rfl) wm_X11_257 rfl (Nat.le_of_ble_eq_true rfl) rfl H (fun r2 S2 H => ?_)
              exact x_ireturn (ty := .int) rfl rfl (x_at tdX11_holds 26 rfl) ⟨_, rfl, H⟩
            · have H := H.2 c
              refine x_lconst (v := 0) (x_at tdX11_holds 22 rfl) rfl ?_
              refine x_goto 46 (x_at tdX11_holds 23 rfl) rfl ?_
              refine x_cVi (as := [.int x1, .int x2, .long 0]) (rest := []) mi_X6_threadBehind vc_6 (lC_52 h) (x_at tdX11_holds 25 rfl) wm_X11_257 rfl (Nat.le_of_ble_eq_true rfl) rfl H (fun r3 S3 H => ?_)
              exact x_ireturn (ty := .int) rfl rfl (x_at tdX11_holds 26 rfl) ⟨_, rfl, H⟩
          · have H := H.2 c
            refine x_iconst (x_at tdX11_holds 14 rfl) k_c_m1 ?_
            exact x_ireturn (ty := .int) rfl rfl (x_at tdX11_holds 15 rfl) ⟨_, rfl, H⟩
theorem e_Th_commonDivisor {h : xH} {d : Nat} {x0 : Int64} {x2 : Int64} {S : xSt} {K : Int64 → xSt → Prop}  (H : B_Th_commonDivisor_3 h d x0 x2 0 S K) : M_Th_commonDivisor h d x0 x2 S K := by
  refine x_enter pn_X6 (Nat.le_of_ble_eq_true rfl) ?_
  show X (gC h) _ _ 0 [(0, .long x0), (2, .long x2)] [] S _
  refine x_iconst (x_at tdX6_commonDivisor 0 rfl) k_c_0 ?_
  refine x_istore (x_at tdX6_commonDivisor 1 rfl) (by decide) ?_
  refine x_weak (lv' := [(0, .long x0), (2, .long x2), (4, .int 0)]) ⟨rfl, rfl, rfl, trivial⟩ ?_
  exact H
theorem b_Th_commonDivisor_3 {h : xH} {d : Nat}  {x0 : Int64} {x2 : Int64} {x4 : Int32} {S : xSt} {K : Int64 → xSt → Prop}  (H : ((100 ≤ x4 → K x0 S) ∧ (¬ 100 ≤ x4 → ((x2 = 0 → K x0 S) ∧ (¬ x2 = 0 → (¬ x2 = 0 ∧ B_Th_commonDivisor_3 h d x2 (x0 - x0 / x2 * x2) (x4 + 1) S K)))))) : B_Th_commonDivisor_3 h d x0 x2 x4 S K := by
  unfold B_Th_commonDivisor_3
  refine x_iload (x_at tdX6_commonDivisor 2 rfl) rfl ?_
  refine x_bipush (x_at tdX6_commonDivisor 3 rfl) k_b_100 ?_
  refine x_ic_ge 32 (x_at tdX6_commonDivisor 4 rfl) rfl (fun c => ?_) (fun c => ?_)
  · have H := H.1 c
    refine x_lload_n (x_at tdX6_commonDivisor 19 rfl) rfl rfl ?_
    exact x_lreturn rfl (x_at tdX6_commonDivisor 20 rfl) ⟨_, rfl, H⟩
  · have H := H.2 c
    refine x_lload_n (x_at tdX6_commonDivisor 5 rfl) rfl rfl ?_
    refine x_lconst (v := 0) (x_at tdX6_commonDivisor 6 rfl) rfl ?_
    refine x_lc_eq 32 (x_at tdX6_commonDivisor 7 rfl) (x_at tdX6_commonDivisor 8 rfl) rfl (fun c => ?_) (fun c => ?_)
    · have H := H.1 c
      refine x_lload_n (x_at tdX6_commonDivisor 19 rfl) rfl rfl ?_
      exact x_lreturn rfl (x_at tdX6_commonDivisor 20 rfl) ⟨_, rfl, H⟩
    · have H := H.2 c
      refine x_lload_n (x_at tdX6_commonDivisor 9 rfl) rfl rfl ?_
      refine x_lload_n (x_at tdX6_commonDivisor 10 rfl) rfl rfl ?_
      refine x_lrem (x_at tdX6_commonDivisor 11 rfl) H.1 ?_
      have H := H.2
      refine x_lstore (x_at tdX6_commonDivisor 12 rfl) (by decide) ?_
      refine x_lload_n (x_at tdX6_commonDivisor 13 rfl) rfl rfl ?_
      refine x_lstore_n (x_at tdX6_commonDivisor 14 rfl) rfl (by decide) ?_
      refine x_lload (x_at tdX6_commonDivisor 15 rfl) rfl ?_
      refine x_lstore_n (x_at tdX6_commonDivisor 16 rfl) rfl (by decide) ?_
      refine x_iinc (x_at tdX6_commonDivisor 17 rfl) rfl (k_inc_1 _) (by decide) ?_
      refine x_goto 3 (x_at tdX6_commonDivisor 18 rfl) rfl ?_
      refine x_weak (lv' := [(0, .long x2), (2, .long (x0 - x0 / x2 * x2)), (4, .int (x4 + 1))]) ⟨rfl, rfl, rfl, trivial⟩ ?_
      exact H
theorem e_Th_waysOf {h : xH} {d : Nat} {x1 : Int32} {x2 : Int32} {S : xSt} {K : Int64 → xSt → Prop}  (H : B_Th_waysOf_5 h d x1 x2 1 0 S K) : M_Th_waysOf h d x1 x2 S K := by
  refine x_enter pn_X6 (Nat.le_of_ble_eq_true rfl) ?_
  show X (gC h) _ _ 0 [(0, .ref (x_ad (gC h) 52)), (1, .int x1), (2, .int x2)] [] S _
  refine x_lconst (v := 1) (x_at tdX6_waysOf 0 rfl) rfl ?_
  refine x_lstore_n (x_at tdX6_waysOf 1 rfl) rfl (by decide) ?_
  refine x_iconst (x_at tdX6_waysOf 2 rfl) k_c_0 ?_
  refine x_istore (x_at tdX6_waysOf 3 rfl) (by decide) ?_
  refine x_weak (lv' := [(0, .ref (x_ad (gC h) 52)), (1, .int x1), (2, .int x2), (3, .long 1), (5, .int 0)]) ⟨rfl, rfl, rfl, rfl, rfl, trivial⟩ ?_
  exact H
theorem b_Th_waysOf_5 {h : xH} {d : Nat}  {x1 : Int32} {x2 : Int32} {x3 : Int64} {x5 : Int32} {S : xSt} {K : Int64 → xSt → Prop}  (H : ((x2 ≤ x5 → K x3 S) ∧ (¬ x2 ≤ x5 → ((¬ ((x1 >>> (x5 &&& 31)) &&& (1 : Int32)) = 1 → B_Th_waysOf_44 h d x1 x2 x5 (((100 : Int32) - (S.1 2 18)) : Int32).toInt64 x3 S K) ∧ (((x1 >>> (x5 &&& 31)) &&& (1 : Int32)) = 1 → B_Th_waysOf_44 h d x1 x2 x5 ((S.1 2 18) : Int32).toInt64 x3 S K))))) : B_Th_waysOf_5 h d x1 x2 x3 x5 S K := by
  unfold B_Th_waysOf_5
  refine x_iload (x_at tdX6_waysOf 4 rfl) rfl ?_
  refine x_iload_n (x_at tdX6_waysOf 5 rfl) rfl rfl ?_
  refine x_ic_ge 52 (x_at tdX6_waysOf 6 rfl) rfl (fun c => ?_) (fun c => ?_)
  · have H := H.1 c
    refine x_lload_n (x_at tdX6_waysOf 30 rfl) rfl rfl ?_
    exact x_lreturn rfl (x_at tdX6_waysOf 31 rfl) ⟨_, rfl, H⟩
  · have H := H.2 c
    refine x_lload_n (x_at tdX6_waysOf 7 rfl) rfl rfl ?_
    refine x_iload_n (x_at tdX6_waysOf 8 rfl) rfl rfl ?_
    refine x_iload (x_at tdX6_waysOf 9 rfl) rfl ?_
    refine x_ishr (x_at tdX6_waysOf 10 rfl) ?_
    refine x_iconst (x_at tdX6_waysOf 11 rfl) k_c_1 ?_
    refine x_iand (x_at tdX6_waysOf 12 rfl) ?_
    refine x_iconst (x_at tdX6_waysOf 13 rfl) k_c_1 ?_
    refine x_ic_ne 33 (x_at tdX6_waysOf 14 rfl) rfl (fun c => ?_) (fun c => ?_)
    · have H := H.1 c
      refine x_bipush (x_at tdX6_waysOf 20 rfl) k_b_100 ?_
      refine x_aload_n (x_at tdX6_waysOf 21 rfl) rfl rfl ?_
      refine gfC_52_0 (x_at tdX6_waysOf 22 rfl) wf_X6_9 ?_
      refine gfC_2_18 (x_at tdX6_waysOf 23 rfl) wf_X6_47 ?_
      refine x_isub (x_at tdX6_waysOf 24 rfl) ?_
      refine x_i2l (x_at tdX6_waysOf 25 rfl) ?_
      refine x_weak (lv' := [(0, .ref (x_ad (gC h) 52)), (1, .int x1), (2, .int x2), (5, .int x5)]) ⟨rfl, rfl, rfl, rfl, trivial⟩ ?_
      exact H
    · have H := H.2 c
      refine x_aload_n (x_at tdX6_waysOf 15 rfl) rfl rfl ?_
      refine gfC_52_0 (x_at tdX6_waysOf 16 rfl) wf_X6_9 ?_
      refine gfC_2_18 (x_at tdX6_waysOf 17 rfl) wf_X6_47 ?_
      refine x_i2l (x_at tdX6_waysOf 18 rfl) ?_
      refine x_goto 44 (x_at tdX6_waysOf 19 rfl) rfl ?_
      refine x_weak (lv' := [(0, .ref (x_ad (gC h) 52)), (1, .int x1), (2, .int x2), (5, .int x5)]) ⟨rfl, rfl, rfl, rfl, trivial⟩ ?_
      exact H
theorem b_Th_waysOf_44 {h : xH} {d : Nat}  {x1 : Int32} {x2 : Int32} {x5 : Int32} {s0 : Int64} {s1 : Int64} {S : xSt} {K : Int64 → xSt → Prop}  (H : B_Th_waysOf_5 h d x1 x2 (s1 * s0) (x5 + 1) S K) : B_Th_waysOf_44 h d x1 x2 x5 s0 s1 S K := by
  unfold B_Th_waysOf_44
  refine x_lmul (x_at tdX6_waysOf 26 rfl) ?_
  refine x_lstore_n (x_at tdX6_waysOf 27 rfl) rfl (by decide) ?_
  refine x_iinc (x_at tdX6_waysOf 28 rfl) rfl (k_inc_1 _) (by decide) ?_
  refine x_goto 5 (x_at tdX6_waysOf 29 rfl) rfl ?_
  refine x_weak (lv' := [(0, .ref (x_ad (gC h) 52)), (1, .int x1), (2, .int x2), (3, .long (s1 * s0)), (5, .int (x5 + 1))]) ⟨rfl, rfl, rfl, rfl, rfl, trivial⟩ ?_
  exact H
theorem e_Th_oddsPart {h : xH} {d : Nat} {x1 : Int32} {x2 : Int32} {x3 : Int32} {S : xSt} {K : Int64 → xSt → Prop}  (H : B_Th_oddsPart_6 h d x1 x2 x3 0 0 S K) : M_Th_oddsPart h d x1 x2 x3 S K := by
  refine x_enter pn_X6 (Nat.le_of_ble_eq_true rfl) ?_
  show X (gC h) _ _ 0 [(0, .ref (x_ad (gC h) 52)), (1, .int x1), (2, .int x2), (3, .int x3)] [] S _
  refine x_lconst (v := 0) (x_at tdX6_oddsPart 0 rfl) rfl ?_
  refine x_lstore (x_at tdX6_oddsPart 1 rfl) (by decide) ?_
  refine x_iconst (x_at tdX6_oddsPart 2 rfl) k_c_0 ?_
  refine x_istore (x_at tdX6_oddsPart 3 rfl) (by decide) ?_
  refine x_weak (lv' := [(0, .ref (x_ad (gC h) 52)), (1, .int x1), (2, .int x2), (3, .int x3), (4, .long 0), (6, .int 0)]) ⟨rfl, rfl, rfl, rfl, rfl, rfl, trivial⟩ ?_
  exact H
theorem b_Th_oddsPart_6 {h : xH} {d : Nat}  {x1 : Int32} {x2 : Int32} {x3 : Int32} {x4 : Int64} {x6 : Int32} {S : xSt} {K : Int64 → xSt → Prop}  (H : ((((1 : Int32) <<< (x2 &&& 31)) ≤ x6 → B_Th_oddsPart_50 h d x2 x3 x4 1 0 S K) ∧ (¬ ((1 : Int32) <<< (x2 &&& 31)) ≤ x6 → M_Th_threadBehind h d x1 x2 (x6 : Int32).toInt64 S (fun (r1 : Int32) (S1 : xSt) => ((r1 ≤ 0 → B_Th_oddsPart_38 h d x1 x2 x3 x4 x6 S1 K) ∧ (¬ r1 ≤ 0 → M_Th_waysOf h (d + 4) x6 x2 S1 (fun (r2 : Int64) (S2 : xSt) => B_Th_oddsPart_38 h d x1 x2 x3 (x4 + r2) x6 S2 K))))))) : B_Th_oddsPart_6 h d x1 x2 x3 x4 x6 S K := by
  unfold B_Th_oddsPart_6
  refine x_iload (x_at tdX6_oddsPart 4 rfl) rfl ?_
  refine x_iconst (x_at tdX6_oddsPart 5 rfl) k_c_1 ?_
  refine x_iload_n (x_at tdX6_oddsPart 6 rfl) rfl rfl ?_
  refine x_ishl (x_at tdX6_oddsPart 7 rfl) ?_
  refine x_ic_ge 44 (x_at tdX6_oddsPart 8 rfl) rfl (fun c => ?_) (fun c => ?_)
  · have H := H.1 c
    refine x_lconst (v := 1) (x_at tdX6_oddsPart 25 rfl) rfl ?_
    refine x_lstore (x_at tdX6_oddsPart 26 rfl) (by decide) ?_
    refine x_iconst (x_at tdX6_oddsPart 27 rfl) k_c_0 ?_
    refine x_istore (x_at tdX6_oddsPart 28 rfl) (by decide) ?_
    refine x_weak (lv' := [(2, .int x2), (3, .int x3), (4, .long x4), (6, .long 1), (8, .int 0)]) ⟨rfl, rfl, rfl, rfl, rfl, trivial⟩ ?_
    exact H
  · have H := H.2 c
    refine x_aload_n (x_at tdX6_oddsPart 9 rfl) rfl rfl ?_
    refine x_iload_n (x_at tdX6_oddsPart 10 rfl) rfl rfl ?_
    refine x_iload_n (x_at tdX6_oddsPart 11 rfl) rfl rfl ?_
    refine x_iload (x_at tdX6_oddsPart 12 rfl) rfl ?_
    refine x_i2l (x_at tdX6_oddsPart 13 rfl) ?_
    refine x_cVi (as := [.int x1, .int x2, .long (x6 : Int32).toInt64]) (rest := []) mi_X6_threadBehind vc_6 (lC_52 h) (x_at tdX6_oddsPart 14 rfl) wm_X6_33 rfl (Nat.le_of_ble_eq_true rfl) rfl H (fun r1 S1 H => ?_)
    refine x_if_le 38 (x_at tdX6_oddsPart 15 rfl) rfl (fun c => ?_) (fun c => ?_)
    · have H := H.1 c
      refine x_weak (lv' := [(0, .ref (x_ad (gC h) 52)), (1, .int x1), (2, .int x2), (3, .int x3), (4, .long x4), (6, .int x6)]) ⟨rfl, rfl, rfl, rfl, rfl, rfl, trivial⟩ ?_
      exact H
    · have H := H.2 c
      refine x_lload (x_at tdX6_oddsPart 16 rfl) rfl ?_
      refine x_aload_n (x_at tdX6_oddsPart 17 rfl) rfl rfl ?_
      refine x_iload (x_at tdX6_oddsPart 18 rfl) rfl ?_
      refine x_iload_n (x_at tdX6_oddsPart 19 rfl) rfl rfl ?_
      refine x_cVl (as := [.int x6, .int x2]) (rest := [.long x4]) mi_X6_waysOf vc_6 (lC_52 h) (x_at tdX6_oddsPart 20 rfl) wm_X6_37 rfl (Nat.le_of_ble_eq_true rfl) rfl H (fun r2 S2 H => ?_)
      refine x_ladd (x_at tdX6_oddsPart 21 rfl) ?_
      refine x_lstore (x_at tdX6_oddsPart 22 rfl) (by decide) ?_
      refine x_weak (lv' := [(0, .ref (x_ad (gC h) 52)), (1, .int x1), (2, .int x2), (3, .int x3), (4, .long (x4 + r2)), (6, .int x6)]) ⟨rfl, rfl, rfl, rfl, rfl, rfl, trivial⟩ ?_
      exact H
theorem b_Th_oddsPart_38 {h : xH} {d : Nat}  {x1 : Int32} {x2 : Int32} {x3 : Int32} {x4 : Int64} {x6 : Int32} {S : xSt} {K : Int64 → xSt → Prop}  (H : B_Th_oddsPart_6 h d x1 x2 x3 x4 (x6 + 1) S K) : B_Th_oddsPart_38 h d x1 x2 x3 x4 x6 S K := by
  unfold B_Th_oddsPart_38
  refine x_iinc (x_at tdX6_oddsPart 23 rfl) rfl (k_inc_1 _) (by decide) ?_
  refine x_goto 6 (x_at tdX6_oddsPart 24 rfl) rfl ?_
  refine x_weak (lv' := [(0, .ref (x_ad (gC h) 52)), (1, .int x1), (2, .int x2), (3, .int x3), (4, .long x4), (6, .int (x6 + 1))]) ⟨rfl, rfl, rfl, rfl, rfl, rfl, trivial⟩ ?_
  exact H
theorem b_Th_oddsPart_50 {h : xH} {d : Nat}  {x2 : Int32} {x3 : Int32} {x4 : Int64} {x6 : Int64} {x8 : Int32} {S : xSt} {K : Int64 → xSt → Prop}  (H : ((x2 ≤ x8 → M_Th_commonDivisor h (d + 4) x4 x6 S (fun (r1 : Int64) (S1 : xSt) => ((¬ x3 = 0 → B_Th_oddsPart_90 h d r1 x6 S1 K) ∧ (x3 = 0 → B_Th_oddsPart_90 h d r1 x4 S1 K)))) ∧ (¬ x2 ≤ x8 → B_Th_oddsPart_50 h d x2 x3 x4 (x6 * (100 : Int64)) (x8 + 1) S K))) : B_Th_oddsPart_50 h d x2 x3 x4 x6 x8 S K := by
  unfold B_Th_oddsPart_50
  refine x_iload (x_at tdX6_oddsPart 29 rfl) rfl ?_
  refine x_iload_n (x_at tdX6_oddsPart 30 rfl) rfl rfl ?_
  refine x_ic_ge 70 (x_at tdX6_oddsPart 31 rfl) rfl (fun c => ?_) (fun c => ?_)
  · have H := H.1 c
    refine x_lload (x_at tdX6_oddsPart 38 rfl) rfl ?_
    refine x_lload (x_at tdX6_oddsPart 39 rfl) rfl ?_
    refine x_cSl (as := [.long x4, .long x6]) (rest := []) mi_X6_commonDivisor (x_at tdX6_oddsPart 40 rfl) wm_X6_43 rfl (Nat.le_of_ble_eq_true rfl) rfl H (fun r1 S1 H => ?_)
    refine x_lstore (x_at tdX6_oddsPart 41 rfl) (by decide) ?_
    refine x_iload_n (x_at tdX6_oddsPart 42 rfl) rfl rfl ?_
    refine x_if_ne 88 (x_at tdX6_oddsPart 43 rfl) rfl (fun c => ?_) (fun c => ?_)
    · have H := H.1 c
      refine x_lload (x_at tdX6_oddsPart 46 rfl) rfl ?_
      refine x_weak (lv' := [(8, .long r1)]) ⟨rfl, trivial⟩ ?_
      exact H
    · have H := H.2 c
      refine x_lload (x_at tdX6_oddsPart 44 rfl) rfl ?_
      refine x_goto 90 (x_at tdX6_oddsPart 45 rfl) rfl ?_
      refine x_weak (lv' := [(8, .long r1)]) ⟨rfl, trivial⟩ ?_
      exact H
  · have H := H.2 c
    refine x_lload (x_at tdX6_oddsPart 32 rfl) rfl ?_
    refine x_ldc2 (x_at tdX6_oddsPart 33 rfl) wk_X6_41 ?_
    refine x_lmul (x_at tdX6_oddsPart 34 rfl) ?_
    refine x_lstore (x_at tdX6_oddsPart 35 rfl) (by decide) ?_
    refine x_iinc (x_at tdX6_oddsPart 36 rfl) rfl (k_inc_1 _) (by decide) ?_
    refine x_goto 50 (x_at tdX6_oddsPart 37 rfl) rfl ?_
    refine x_weak (lv' := [(2, .int x2), (3, .int x3), (4, .long x4), (6, .long (x6 * (100 : Int64))), (8, .int (x8 + 1))]) ⟨rfl, rfl, rfl, rfl, rfl, trivial⟩ ?_
    exact H
theorem b_Th_oddsPart_90 {h : xH} {d : Nat}  {x8 : Int64} {s0 : Int64} {S : xSt} {K : Int64 → xSt → Prop}  (H : ((¬ x8 = 0 → (¬ x8 = 0 ∧ K (s0 / x8) S)) ∧ (x8 = 0 → K s0 S))) : B_Th_oddsPart_90 h d x8 s0 S K := by
  unfold B_Th_oddsPart_90
  refine x_lstore (x_at tdX6_oddsPart 47 rfl) (by decide) ?_
  refine x_lload (x_at tdX6_oddsPart 48 rfl) rfl ?_
  refine x_lconst (v := 0) (x_at tdX6_oddsPart 49 rfl) rfl ?_
  refine x_lc_ne 104 (x_at tdX6_oddsPart 50 rfl) (x_at tdX6_oddsPart 51 rfl) rfl (fun c => ?_) (fun c => ?_)
  · have H := H.1 c
    refine x_lload (x_at tdX6_oddsPart 54 rfl) rfl ?_
    refine x_lload (x_at tdX6_oddsPart 55 rfl) rfl ?_
    refine x_ldiv (x_at tdX6_oddsPart 56 rfl) H.1 ?_
    have H := H.2
    exact x_lreturn rfl (x_at tdX6_oddsPart 57 rfl) ⟨_, rfl, H⟩
  · have H := H.2 c
    refine x_lload (x_at tdX6_oddsPart 52 rfl) rfl ?_
    refine x_goto 109 (x_at tdX6_oddsPart 53 rfl) rfl ?_
    exact x_lreturn rfl (x_at tdX6_oddsPart 57 rfl) ⟨_, rfl, H⟩
theorem e_O_odds {h : xH} {d : Nat} {x1 : Int32} {x2 : Int32} {x3 : Int32} {S : xSt} {K : Int64 → xSt → Prop}  (H : M_O_isButtonOn h (d + 4) x1 S (fun (r1 : Int32) (S1 : xSt) => ((r1 = 0 → K (-1) S1) ∧ (¬ r1 = 0 → ((x2 < 0 → K (-1) S1) ∧ (¬ x2 < 0 → ((6 < x2 → K (-1) S1) ∧ (¬ 6 < x2 → ((x3 < 0 → K (-1) S1) ∧ (¬ x3 < 0 → ((x3 ≤ 1 → M_Th_oddsPart h d x1 x2 x3 S1 (fun (r2 : Int64) (S2 : xSt) => K r2 S2)) ∧ (¬ x3 ≤ 1 → K (-1) S1)))))))))))) : M_O_odds h d x1 x2 x3 S K := by
  refine x_enter pn_X11 (Nat.le_of_ble_eq_true rfl) ?_
  show X (gC h) _ _ 0 [(0, .ref (x_ad (gC h) 0)), (1, .int x1), (2, .int x2), (3, .int x3)] [] S _
  refine x_aload_n (x_at tdX11_odds 0 rfl) rfl rfl ?_
  refine x_iload_n (x_at tdX11_odds 1 rfl) rfl rfl ?_
  refine x_cVi (as := [.int x1]) (rest := []) mi_X11_isButtonOn vc_11 (lC_0 h) (x_at tdX11_odds 2 rfl) wm_X11_177 rfl (Nat.le_of_ble_eq_true rfl) rfl H (fun r1 S1 H => ?_)
  refine x_if_eq 27 (x_at tdX11_odds 3 rfl) rfl (fun c => ?_) (fun c => ?_)
  · have H := H.1 c
    refine x_ldc2 (x_at tdX11_odds 14 rfl) wk_X11_255 ?_
    exact x_lreturn rfl (x_at tdX11_odds 15 rfl) ⟨_, rfl, H⟩
  · have H := H.2 c
    refine x_iload_n (x_at tdX11_odds 4 rfl) rfl rfl ?_
    refine x_if_lt 27 (x_at tdX11_odds 5 rfl) rfl (fun c => ?_) (fun c => ?_)
    · have H := H.1 c
      refine x_ldc2 (x_at tdX11_odds 14 rfl) wk_X11_255 ?_
      exact x_lreturn rfl (x_at tdX11_odds 15 rfl) ⟨_, rfl, H⟩
    · have H := H.2 c
      refine x_iload_n (x_at tdX11_odds 6 rfl) rfl rfl ?_
      refine x_bipush (x_at tdX11_odds 7 rfl) k_b_6 ?_
      refine x_ic_gt 27 (x_at tdX11_odds 8 rfl) rfl (fun c => ?_) (fun c => ?_)
      · have H := H.1 c
        refine x_ldc2 (x_at tdX11_odds 14 rfl) wk_X11_255 ?_
        exact x_lreturn rfl (x_at tdX11_odds 15 rfl) ⟨_, rfl, H⟩
      · have H := H.2 c
        refine x_iload_n (x_at tdX11_odds 9 rfl) rfl rfl ?_
        refine x_if_lt 27 (x_at tdX11_odds 10 rfl) rfl (fun c => ?_) (fun c => ?_)
        · have H := H.1 c
          refine x_ldc2 (x_at tdX11_odds 14 rfl) wk_X11_255 ?_
          exact x_lreturn rfl (x_at tdX11_odds 15 rfl) ⟨_, rfl, H⟩
        · have H := H.2 c
          refine x_iload_n (x_at tdX11_odds 11 rfl) rfl rfl ?_
          refine x_iconst (x_at tdX11_odds 12 rfl) k_c_1 ?_
          refine x_ic_le 31 (x_at tdX11_odds 13 rfl) rfl (fun c => ?_) (fun c => ?_)
          · have H := H.1 c
            refine x_aload_n (x_at tdX11_odds 16 rfl) rfl rfl ?_
            refine gfC_0_7 (x_at tdX11_odds 17 rfl) wf_X11_57 ?_
            refine x_iload_n (x_at tdX11_odds 18 rfl) rfl rfl ?_
            refine x_iload_n (x_at tdX11_odds 19 rfl) rfl rfl ?_
            refine x_iload_n (x_at tdX11_odds 20 rfl) rfl rfl ?_
            refine x_cVl (as := [.int x1, .int x2, .int x3]) (rest := []) mi_X6_oddsPart vc_6 (lC_52 h) (x_at tdX11_odds 21 rfl) wm_X11_261 rfl (Nat.le_of_ble_eq_true rfl) rfl H (fun r2 S2 H => ?_)
            exact x_lreturn rfl (x_at tdX11_odds 22 rfl) ⟨_, rfl, H⟩
          · have H := H.2 c
            refine x_ldc2 (x_at tdX11_odds 14 rfl) wk_X11_255 ?_
            exact x_lreturn rfl (x_at tdX11_odds 15 rfl) ⟨_, rfl, H⟩
theorem e_Th_daysTillLost {h : xH} {d : Nat} {x1 : Int32} {S : xSt} {K : Int32 → xSt → Prop}  (H : M_Co_threadOf h (d + 3) x1 S (fun (r1 : Int32) (S1 : xSt) => B_Th_daysTillLost_11 h d x1 r1 0 S1 K)) : M_Th_daysTillLost h d x1 S K := by
  refine x_enter pn_X6 (Nat.le_of_ble_eq_true rfl) ?_
  show X (gC h) _ _ 0 [(0, .ref (x_ad (gC h) 52)), (1, .int x1)] [] S _
  refine x_aload_n (x_at tdX6_daysTillLost 0 rfl) rfl rfl ?_
  refine gfC_52_1 (x_at tdX6_daysTillLost 1 rfl) wf_X6_15 ?_
  refine x_iload_n (x_at tdX6_daysTillLost 2 rfl) rfl rfl ?_
  refine x_cVi (as := [.int x1]) (rest := []) mi_X0_threadOf vc_0 (lC_41 h) (x_at tdX6_daysTillLost 3 rfl) wm_X6_19 rfl (Nat.le_of_ble_eq_true rfl) rfl H (fun r1 S1 H => ?_)
  refine x_istore_n (x_at tdX6_daysTillLost 4 rfl) rfl (by decide) ?_
  refine x_iconst (x_at tdX6_daysTillLost 5 rfl) k_c_0 ?_
  refine x_istore_n (x_at tdX6_daysTillLost 6 rfl) rfl (by decide) ?_
  refine x_weak (lv' := [(0, .ref (x_ad (gC h) 52)), (1, .int x1), (2, .int r1), (3, .int 0)]) ⟨rfl, rfl, rfl, rfl, trivial⟩ ?_
  exact H
theorem b_Th_daysTillLost_11 {h : xH} {d : Nat}  {x1 : Int32} {x2 : Int32} {x3 : Int32} {S : xSt} {K : Int32 → xSt → Prop}  (H : ((60 ≤ x3 → K (-1) S) ∧ (¬ 60 ≤ x3 → M_Co_today h (d + 3) S (fun (r1 : Int32) (S1 : xSt) => M_Co_worn h d x1 x2 0 (r1 + x3) S1 (fun (r2 : Int32) (S2 : xSt) => ((0 < r2 → B_Th_daysTillLost_11 h d x1 r2 (x3 + 1) S2 K) ∧ (¬ 0 < r2 → K (x3 + (1 : Int32)) S2))))))) : B_Th_daysTillLost_11 h d x1 x2 x3 S K := by
  unfold B_Th_daysTillLost_11
  refine x_iload_n (x_at tdX6_daysTillLost 7 rfl) rfl rfl ?_
  refine x_bipush (x_at tdX6_daysTillLost 8 rfl) k_b_60 ?_
  refine x_ic_ge 51 (x_at tdX6_daysTillLost 9 rfl) rfl (fun c => ?_) (fun c => ?_)
  · have H := H.1 c
    refine x_iconst (x_at tdX6_daysTillLost 30 rfl) k_c_m1 ?_
    exact x_ireturn (ty := .int) rfl rfl (x_at tdX6_daysTillLost 31 rfl) ⟨_, rfl, H⟩
  · have H := H.2 c
    refine x_aload_n (x_at tdX6_daysTillLost 10 rfl) rfl rfl ?_
    refine gfC_52_1 (x_at tdX6_daysTillLost 11 rfl) wf_X6_15 ?_
    refine x_iload_n (x_at tdX6_daysTillLost 12 rfl) rfl rfl ?_
    refine x_iload_n (x_at tdX6_daysTillLost 13 rfl) rfl rfl ?_
    refine x_iconst (x_at tdX6_daysTillLost 14 rfl) k_c_0 ?_
    refine x_aload_n (x_at tdX6_daysTillLost 15 rfl) rfl rfl ?_
    refine gfC_52_1 (x_at tdX6_daysTillLost 16 rfl) wf_X6_15 ?_
    refine x_cVi (as := []) (rest := [.int 0, .int x2, .int x1, .ref (x_ad (gC h) 41)]) mi_X0_today vc_0 (lC_41 h) (x_at tdX6_daysTillLost 17 rfl) wm_X6_25 rfl (Nat.le_of_ble_eq_true rfl) rfl H (fun r1 S1 H => ?_)
    refine x_iload_n (x_at tdX6_daysTillLost 18 rfl) rfl rfl ?_
    refine x_iadd (x_at tdX6_daysTillLost 19 rfl) ?_
    refine x_cVi (as := [.int x1, .int x2, .int 0, .int (r1 + x3)]) (rest := []) mi_X0_worn vc_0 (lC_41 h) (x_at tdX6_daysTillLost 20 rfl) wm_X6_29 rfl (Nat.le_of_ble_eq_true rfl) rfl H (fun r2 S2 H => ?_)
    refine x_istore_n (x_at tdX6_daysTillLost 21 rfl) rfl (by decide) ?_
    refine x_iload_n (x_at tdX6_daysTillLost 22 rfl) rfl rfl ?_
    refine x_if_gt 45 (x_at tdX6_daysTillLost 23 rfl) rfl (fun c => ?_) (fun c => ?_)
    · have H := H.1 c
      refine x_iinc (x_at tdX6_daysTillLost 28 rfl) rfl (k_inc_1 _) (by decide) ?_
      refine x_goto 11 (x_at tdX6_daysTillLost 29 rfl) rfl ?_
      refine x_weak (lv' := [(0, .ref (x_ad (gC h) 52)), (1, .int x1), (2, .int r2), (3, .int (x3 + 1))]) ⟨rfl, rfl, rfl, rfl, trivial⟩ ?_
      exact H
    · have H := H.2 c
      refine x_iload_n (x_at tdX6_daysTillLost 24 rfl) rfl rfl ?_
      refine x_iconst (x_at tdX6_daysTillLost 25 rfl) k_c_1 ?_
      refine x_iadd (x_at tdX6_daysTillLost 26 rfl) ?_
      exact x_ireturn (ty := .int) rfl rfl (x_at tdX6_daysTillLost 27 rfl) ⟨_, rfl, H⟩
theorem e_O_first {h : xH} {d : Nat} {x1 : Int32} {S : xSt} {K : Int32 → xSt → Prop}  (H : ((x1 < 0 → K (-1) S) ∧ (¬ x1 < 0 → ((x1 ≤ 1 → B_O_first_19 h d x1 (-1) 61 0 S K) ∧ (¬ x1 ≤ 1 → K (-1) S))))) : M_O_first h d x1 S K := by
  refine x_enter pn_X11 (Nat.le_of_ble_eq_true rfl) ?_
  show X (gC h) _ _ 0 [(0, .ref (x_ad (gC h) 0)), (1, .int x1)] [] S _
  refine x_iload_n (x_at tdX11_first 0 rfl) rfl rfl ?_
  refine x_if_lt 9 (x_at tdX11_first 1 rfl) rfl (fun c => ?_) (fun c => ?_)
  · have H := H.1 c
    refine x_iconst (x_at tdX11_first 5 rfl) k_c_m1 ?_
    exact x_ireturn (ty := .int) rfl rfl (x_at tdX11_first 6 rfl) ⟨_, rfl, H⟩
  · have H := H.2 c
    refine x_iload_n (x_at tdX11_first 2 rfl) rfl rfl ?_
    refine x_iconst (x_at tdX11_first 3 rfl) k_c_1 ?_
    refine x_ic_le 11 (x_at tdX11_first 4 rfl) rfl (fun c => ?_) (fun c => ?_)
    · have H := H.1 c
      refine x_iconst (x_at tdX11_first 7 rfl) k_c_m1 ?_
      refine x_istore_n (x_at tdX11_first 8 rfl) rfl (by decide) ?_
      refine x_bipush (x_at tdX11_first 9 rfl) k_b_61 ?_
      refine x_istore_n (x_at tdX11_first 10 rfl) rfl (by decide) ?_
      refine x_iconst (x_at tdX11_first 11 rfl) k_c_0 ?_
      refine x_istore (x_at tdX11_first 12 rfl) (by decide) ?_
      refine x_weak (lv' := [(0, .ref (x_ad (gC h) 0)), (1, .int x1), (2, .int (-1)), (3, .int 61), (4, .int 0)]) ⟨rfl, rfl, rfl, rfl, rfl, trivial⟩ ?_
      exact H
    · have H := H.2 c
      refine x_iconst (x_at tdX11_first 5 rfl) k_c_m1 ?_
      exact x_ireturn (ty := .int) rfl rfl (x_at tdX11_first 6 rfl) ⟨_, rfl, H⟩
theorem b_O_first_19 {h : xH} {d : Nat}  {x1 : Int32} {x2 : Int32} {x3 : Int32} {x4 : Int32} {S : xSt} {K : Int32 → xSt → Prop}  (H : (((S.1 2 6) ≤ x4 → ((¬ x2 = (-1) → ((¬ x1 = 0 → K x3 S) ∧ (x1 = 0 → K x2 S))) ∧ (x2 = (-1) → K (-1) S))) ∧ (¬ (S.1 2 6) ≤ x4 → M_Co_isOn h (d + 4) x4 S (fun (r1 : Int32) (S1 : xSt) => ((r1 = 0 → B_O_first_56 h d x1 x2 x3 x4 (-1) S1 K) ∧ (¬ r1 = 0 → M_Th_daysTillLost h d x4 S1 (fun (r2 : Int32) (S2 : xSt) => B_O_first_56 h d x1 x2 x3 x4 r2 S2 K))))))) : B_O_first_19 h d x1 x2 x3 x4 S K := by
  unfold B_O_first_19
  refine x_iload (x_at tdX11_first 13 rfl) rfl ?_
  refine x_aload_n (x_at tdX11_first 14 rfl) rfl rfl ?_
  refine gfC_0_2 (x_at tdX11_first 15 rfl) wf_X11_16 ?_
  refine gfC_2_6 (x_at tdX11_first 16 rfl) wf_X11_126 ?_
  refine x_ic_ge 82 (x_at tdX11_first 17 rfl) rfl (fun c => ?_) (fun c => ?_)
  · have H := H.1 c
    refine x_iload_n (x_at tdX11_first 42 rfl) rfl rfl ?_
    refine x_iconst (x_at tdX11_first 43 rfl) k_c_m1 ?_
    refine x_ic_ne 89 (x_at tdX11_first 44 rfl) rfl (fun c => ?_) (fun c => ?_)
    · have H := H.1 c
      refine x_iload_n (x_at tdX11_first 47 rfl) rfl rfl ?_
      refine x_if_ne 97 (x_at tdX11_first 48 rfl) rfl (fun c => ?_) (fun c => ?_)
      · have H := H.1 c
        refine x_iload_n (x_at tdX11_first 51 rfl) rfl rfl ?_
        exact x_ireturn (ty := .int) rfl rfl (x_at tdX11_first 52 rfl) ⟨_, rfl, H⟩
      · have H := H.2 c
        refine x_iload_n (x_at tdX11_first 49 rfl) rfl rfl ?_
        refine x_goto 98 (x_at tdX11_first 50 rfl) rfl ?_
        exact x_ireturn (ty := .int) rfl rfl (x_at tdX11_first 52 rfl) ⟨_, rfl, H⟩
    · have H := H.2 c
      refine x_iconst (x_at tdX11_first 45 rfl) k_c_m1 ?_
      exact x_ireturn (ty := .int) rfl rfl (x_at tdX11_first 46 rfl) ⟨_, rfl, H⟩
  · have H := H.2 c
    refine x_aload_n (x_at tdX11_first 18 rfl) rfl rfl ?_
    refine gfC_0_4 (x_at tdX11_first 19 rfl) wf_X11_32 ?_
    refine x_iload (x_at tdX11_first 20 rfl) rfl ?_
    refine x_cVi (as := [.int x4]) (rest := []) mi_X0_isOn vc_0 (lC_41 h) (x_at tdX11_first 21 rfl) wm_X11_164 rfl (Nat.le_of_ble_eq_true rfl) rfl H (fun r1 S1 H => ?_)
    refine x_if_eq 55 (x_at tdX11_first 22 rfl) rfl (fun c => ?_) (fun c => ?_)
    · have H := H.1 c
      refine x_iconst (x_at tdX11_first 28 rfl) k_c_m1 ?_
      refine x_weak (lv' := [(0, .ref (x_ad (gC h) 0)), (1, .int x1), (2, .int x2), (3, .int x3), (4, .int x4)]) ⟨rfl, rfl, rfl, rfl, rfl, trivial⟩ ?_
      exact H
    · have H := H.2 c
      refine x_aload_n (x_at tdX11_first 23 rfl) rfl rfl ?_
      refine gfC_0_7 (x_at tdX11_first 24 rfl) wf_X11_57 ?_
      refine x_iload (x_at tdX11_first 25 rfl) rfl ?_
      refine x_cVi (as := [.int x4]) (rest := []) mi_X6_daysTillLost vc_6 (lC_52 h) (x_at tdX11_first 26 rfl) wm_X11_265 rfl (Nat.le_of_ble_eq_true rfl) rfl H (fun r2 S2 H => ?_)
      refine x_goto 56 (x_at tdX11_first 27 rfl) rfl ?_
      refine x_weak (lv' := [(0, .ref (x_ad (gC h) 0)), (1, .int x1), (2, .int x2), (3, .int x3), (4, .int x4)]) ⟨rfl, rfl, rfl, rfl, rfl, trivial⟩ ?_
      exact H
theorem b_O_first_56 {h : xH} {d : Nat}  {x1 : Int32} {x2 : Int32} {x3 : Int32} {x4 : Int32} {s0 : Int32} {S : xSt} {K : Int32 → xSt → Prop}  (H : ((s0 = (-1) → B_O_first_76 h d x1 x2 x3 x4 S K) ∧ (¬ s0 = (-1) → ((x3 ≤ s0 → B_O_first_76 h d x1 x2 x3 x4 S K) ∧ (¬ x3 ≤ s0 → B_O_first_76 h d x1 x4 s0 x4 S K))))) : B_O_first_56 h d x1 x2 x3 x4 s0 S K := by
  unfold B_O_first_56
  refine x_istore (x_at tdX11_first 29 rfl) (by decide) ?_
  refine x_iload (x_at tdX11_first 30 rfl) rfl ?_
  refine x_iconst (x_at tdX11_first 31 rfl) k_c_m1 ?_
  refine x_ic_eq 76 (x_at tdX11_first 32 rfl) rfl (fun c => ?_) (fun c => ?_)
  · have H := H.1 c
    refine x_weak (lv' := [(0, .ref (x_ad (gC h) 0)), (1, .int x1), (2, .int x2), (3, .int x3), (4, .int x4)]) ⟨rfl, rfl, rfl, rfl, rfl, trivial⟩ ?_
    exact H
  · have H := H.2 c
    refine x_iload (x_at tdX11_first 33 rfl) rfl ?_
    refine x_iload_n (x_at tdX11_first 34 rfl) rfl rfl ?_
    refine x_ic_ge 76 (x_at tdX11_first 35 rfl) rfl (fun c => ?_) (fun c => ?_)
    · have H := H.1 c
      refine x_weak (lv' := [(0, .ref (x_ad (gC h) 0)), (1, .int x1), (2, .int x2), (3, .int x3), (4, .int x4)]) ⟨rfl, rfl, rfl, rfl, rfl, trivial⟩ ?_
      exact H
    · have H := H.2 c
      refine x_iload (x_at tdX11_first 36 rfl) rfl ?_
      refine x_istore_n (x_at tdX11_first 37 rfl) rfl (by decide) ?_
      refine x_iload (x_at tdX11_first 38 rfl) rfl ?_
      refine x_istore_n (x_at tdX11_first 39 rfl) rfl (by decide) ?_
      refine x_weak (lv' := [(0, .ref (x_ad (gC h) 0)), (1, .int x1), (2, .int x4), (3, .int s0), (4, .int x4)]) ⟨rfl, rfl, rfl, rfl, rfl, trivial⟩ ?_
      exact H
theorem b_O_first_76 {h : xH} {d : Nat}  {x1 : Int32} {x2 : Int32} {x3 : Int32} {x4 : Int32} {S : xSt} {K : Int32 → xSt → Prop}  (H : B_O_first_19 h d x1 x2 x3 (x4 + 1) S K) : B_O_first_76 h d x1 x2 x3 x4 S K := by
  unfold B_O_first_76
  refine x_iinc (x_at tdX11_first 40 rfl) rfl (k_inc_1 _) (by decide) ?_
  refine x_goto 19 (x_at tdX11_first 41 rfl) rfl ?_
  refine x_weak (lv' := [(0, .ref (x_ad (gC h) 0)), (1, .int x1), (2, .int x2), (3, .int x3), (4, .int (x4 + 1))]) ⟨rfl, rfl, rfl, rfl, rfl, trivial⟩ ?_
  exact H
theorem e_Th_stateBehind {h : xH} {d : Nat} {x1 : Int32} {x2 : Int32} {S : xSt} {K : Int32 → xSt → Prop}  (H : M_Co_stateOf h (d + 3) x1 S (fun (r1 : Int32) (S1 : xSt) => M_Co_threadOf h (d + 3) x1 S1 (fun (r2 : Int32) (S2 : xSt) => M_Co_seed h (d + 3) S2 (fun (r3 : Int32) (S3 : xSt) => B_Th_stateBehind_31 h d x1 x2 r1 r2 r3 0 S3 K)))) : M_Th_stateBehind h d x1 x2 S K := by
  refine x_enter pn_X6 (Nat.le_of_ble_eq_true rfl) ?_
  show X (gC h) _ _ 0 [(0, .ref (x_ad (gC h) 52)), (1, .int x1), (2, .int x2)] [] S _
  refine x_aload_n (x_at tdX6_stateBehind 0 rfl) rfl rfl ?_
  refine gfC_52_1 (x_at tdX6_stateBehind 1 rfl) wf_X6_15 ?_
  refine x_iload_n (x_at tdX6_stateBehind 2 rfl) rfl rfl ?_
  refine x_cVi (as := [.int x1]) (rest := []) mi_X0_stateOf vc_0 (lC_41 h) (x_at tdX6_stateBehind 3 rfl) wm_X6_53 rfl (Nat.le_of_ble_eq_true rfl) rfl H (fun r1 S1 H => ?_)
  refine x_istore_n (x_at tdX6_stateBehind 4 rfl) rfl (by decide) ?_
  refine x_aload_n (x_at tdX6_stateBehind 5 rfl) rfl rfl ?_
  refine gfC_52_1 (x_at tdX6_stateBehind 6 rfl) wf_X6_15 ?_
  refine x_iload_n (x_at tdX6_stateBehind 7 rfl) rfl rfl ?_
  refine x_cVi (as := [.int x1]) (rest := []) mi_X0_threadOf vc_0 (lC_41 h) (x_at tdX6_stateBehind 8 rfl) wm_X6_19 rfl (Nat.le_of_ble_eq_true rfl) rfl H (fun r2 S2 H => ?_)
  refine x_istore (x_at tdX6_stateBehind 9 rfl) (by decide) ?_
  refine x_aload_n (x_at tdX6_stateBehind 10 rfl) rfl rfl ?_
  refine gfC_52_1 (x_at tdX6_stateBehind 11 rfl) wf_X6_15 ?_
  refine x_cVi (as := []) (rest := []) mi_X0_seed vc_0 (lC_41 h) (x_at tdX6_stateBehind 12 rfl) wm_X6_56 rfl (Nat.le_of_ble_eq_true rfl) rfl H (fun r3 S3 H => ?_)
  refine x_istore (x_at tdX6_stateBehind 13 rfl) (by decide) ?_
  refine x_iconst (x_at tdX6_stateBehind 14 rfl) k_c_0 ?_
  refine x_istore (x_at tdX6_stateBehind 15 rfl) (by decide) ?_
  refine x_weak (lv' := [(0, .ref (x_ad (gC h) 52)), (1, .int x1), (2, .int x2), (3, .int r1), (4, .int r2), (5, .int r3), (6, .int 0)]) ⟨rfl, rfl, rfl, rfl, rfl, rfl, rfl, trivial⟩ ?_
  exact H
theorem b_Th_stateBehind_31 {h : xH} {d : Nat}  {x1 : Int32} {x2 : Int32} {x3 : Int32} {x4 : Int32} {x5 : Int32} {x6 : Int32} {S : xSt} {K : Int32 → xSt → Prop}  (H : ((x2 ≤ x6 → K x3 S) ∧ (¬ x2 ≤ x6 → ((¬ x3 = 0 → K x3 S) ∧ (x3 = 0 → M_Co_today h (d + 3) S (fun (r1 : Int32) (S1 : xSt) => M_Co_nextSeed h (d + 3) x5 S1 (fun (r2 : Int32) (S2 : xSt) => M_Co_stormBy h (d + 3) r2 S2 (fun (r3 : Int32) (S3 : xSt) => M_Co_worn h d x1 x4 r3 (r1 + x6) S3 (fun (r4 : Int32) (S4 : xSt) => M_Co_stateAfterWear h (d + 3) x1 r4 ((r1 + x6) + (1 : Int32)) S4 (fun (r5 : Int32) (S5 : xSt) => B_Th_stateBehind_31 h d x1 x2 r5 r4 r2 (x6 + 1) S5 K)))))))))) : B_Th_stateBehind_31 h d x1 x2 x3 x4 x5 x6 S K := by
  unfold B_Th_stateBehind_31
  refine x_iload (x_at tdX6_stateBehind 16 rfl) rfl ?_
  refine x_iload_n (x_at tdX6_stateBehind 17 rfl) rfl rfl ?_
  refine x_ic_ge 104 (x_at tdX6_stateBehind 18 rfl) rfl (fun c => ?_) (fun c => ?_)
  · have H := H.1 c
    refine x_iload_n (x_at tdX6_stateBehind 52 rfl) rfl rfl ?_
    exact x_ireturn (ty := .int) rfl rfl (x_at tdX6_stateBehind 53 rfl) ⟨_, rfl, H⟩
  · have H := H.2 c
    refine x_iload_n (x_at tdX6_stateBehind 19 rfl) rfl rfl ?_
    refine x_if_ne 104 (x_at tdX6_stateBehind 20 rfl) rfl (fun c => ?_) (fun c => ?_)
    · have H := H.1 c
      refine x_iload_n (x_at tdX6_stateBehind 52 rfl) rfl rfl ?_
      exact x_ireturn (ty := .int) rfl rfl (x_at tdX6_stateBehind 53 rfl) ⟨_, rfl, H⟩
    · have H := H.2 c
      refine x_aload_n (x_at tdX6_stateBehind 21 rfl) rfl rfl ?_
      refine gfC_52_1 (x_at tdX6_stateBehind 22 rfl) wf_X6_15 ?_
      refine x_cVi (as := []) (rest := []) mi_X0_today vc_0 (lC_41 h) (x_at tdX6_stateBehind 23 rfl) wm_X6_25 rfl (Nat.le_of_ble_eq_true rfl) rfl H (fun r1 S1 H => ?_)
      refine x_iload (x_at tdX6_stateBehind 24 rfl) rfl ?_
      refine x_iadd (x_at tdX6_stateBehind 25 rfl) ?_
      refine x_istore (x_at tdX6_stateBehind 26 rfl) (by decide) ?_
      refine x_iload (x_at tdX6_stateBehind 27 rfl) rfl ?_
      refine x_cSi (as := [.int x5]) (rest := []) mi_X0_nextSeed (x_at tdX6_stateBehind 28 rfl) wm_X6_59 rfl (Nat.le_of_ble_eq_true rfl) rfl H (fun r2 S2 H => ?_)
      refine x_istore (x_at tdX6_stateBehind 29 rfl) (by decide) ?_
      refine x_aload_n (x_at tdX6_stateBehind 30 rfl) rfl rfl ?_
      refine gfC_52_1 (x_at tdX6_stateBehind 31 rfl) wf_X6_15 ?_
      refine x_iload_n (x_at tdX6_stateBehind 32 rfl) rfl rfl ?_
      refine x_iload (x_at tdX6_stateBehind 33 rfl) rfl ?_
      refine x_aload_n (x_at tdX6_stateBehind 34 rfl) rfl rfl ?_
      refine gfC_52_1 (x_at tdX6_stateBehind 35 rfl) wf_X6_15 ?_
      refine x_iload (x_at tdX6_stateBehind 36 rfl) rfl ?_
      refine x_cVi (as := [.int r2]) (rest := [.int x4, .int x1, .ref (x_ad (gC h) 41)]) mi_X0_stormBy vc_0 (lC_41 h) (x_at tdX6_stateBehind 37 rfl) wm_X6_62 rfl (Nat.le_of_ble_eq_true rfl) rfl H (fun r3 S3 H => ?_)
      refine x_iload (x_at tdX6_stateBehind 38 rfl) rfl ?_
      refine x_cVi (as := [.int x1, .int x4, .int r3, .int (r1 + x6)]) (rest := []) mi_X0_worn vc_0 (lC_41 h) (x_at tdX6_stateBehind 39 rfl) wm_X6_29 rfl (Nat.le_of_ble_eq_true rfl) rfl H (fun r4 S4 H => ?_)
      refine x_istore (x_at tdX6_stateBehind 40 rfl) (by decide) ?_
      refine x_aload_n (x_at tdX6_stateBehind 41 rfl) rfl rfl ?_
      refine gfC_52_1 (x_at tdX6_stateBehind 42 rfl) wf_X6_15 ?_
      refine x_iload_n (x_at tdX6_stateBehind 43 rfl) rfl rfl ?_
      refine x_iload (x_at tdX6_stateBehind 44 rfl) rfl ?_
      refine x_iload (x_at tdX6_stateBehind 45 rfl) rfl ?_
      refine x_iconst (x_at tdX6_stateBehind 46 rfl) k_c_1 ?_
      refine x_iadd (x_at tdX6_stateBehind 47 rfl) ?_
      refine x_cVi (as := [.int x1, .int r4, .int ((r1 + x6) + (1 : Int32))]) (rest := []) mi_X0_stateAfterWear vc_0 (lC_41 h) (x_at tdX6_stateBehind 48 rfl) wm_X6_65 rfl (Nat.le_of_ble_eq_true rfl) rfl H (fun r5 S5 H => ?_)
      refine x_istore_n (x_at tdX6_stateBehind 49 rfl) rfl (by decide) ?_
      refine x_iinc (x_at tdX6_stateBehind 50 rfl) rfl (k_inc_1 _) (by decide) ?_
      refine x_goto 31 (x_at tdX6_stateBehind 51 rfl) rfl ?_
      refine x_weak (lv' := [(0, .ref (x_ad (gC h) 52)), (1, .int x1), (2, .int x2), (3, .int r5), (4, .int r4), (5, .int r2), (6, .int (x6 + 1))]) ⟨rfl, rfl, rfl, rfl, rfl, rfl, rfl, trivial⟩ ?_
      exact H
theorem e_O_will {h : xH} {d : Nat} {x1 : Int32} {x2 : Int32} {S : xSt} {K : Int32 → xSt → Prop}  (H : M_Rg_hasButton_2 h (d + 4) x1 S (fun (r1 : Int32) (S1 : xSt) => ((r1 = 0 → K (-1) S1) ∧ (¬ r1 = 0 → ((x2 < 0 → K (-1) S1) ∧ (¬ x2 < 0 → ((x2 ≤ 60 → M_Th_stateBehind h d x1 x2 S1 (fun (r2 : Int32) (S2 : xSt) => K r2 S2)) ∧ (¬ x2 ≤ 60 → K (-1) S1)))))))) : M_O_will h d x1 x2 S K := by
  refine x_enter pn_X11 (Nat.le_of_ble_eq_true rfl) ?_
  show X (gC h) _ _ 0 [(0, .ref (x_ad (gC h) 0)), (1, .int x1), (2, .int x2)] [] S _
  refine x_aload_n (x_at tdX11_will 0 rfl) rfl rfl ?_
  refine gfC_0_2 (x_at tdX11_will 1 rfl) wf_X11_16 ?_
  refine x_iload_n (x_at tdX11_will 2 rfl) rfl rfl ?_
  refine x_cVi (as := [.int x1]) (rest := []) mi_X5_hasButton vc_5 (lC_2 h) (x_at tdX11_will 3 rfl) wm_X11_129 rfl (Nat.le_of_ble_eq_true rfl) rfl H (fun r1 S1 H => ?_)
  refine x_if_eq 21 (x_at tdX11_will 4 rfl) rfl (fun c => ?_) (fun c => ?_)
  · have H := H.1 c
    refine x_iconst (x_at tdX11_will 10 rfl) k_c_m1 ?_
    exact x_ireturn (ty := .int) rfl rfl (x_at tdX11_will 11 rfl) ⟨_, rfl, H⟩
  · have H := H.2 c
    refine x_iload_n (x_at tdX11_will 5 rfl) rfl rfl ?_
    refine x_if_lt 21 (x_at tdX11_will 6 rfl) rfl (fun c => ?_) (fun c => ?_)
    · have H := H.1 c
      refine x_iconst (x_at tdX11_will 10 rfl) k_c_m1 ?_
      exact x_ireturn (ty := .int) rfl rfl (x_at tdX11_will 11 rfl) ⟨_, rfl, H⟩
    · have H := H.2 c
      refine x_iload_n (x_at tdX11_will 7 rfl) rfl rfl ?_
      refine x_bipush (x_at tdX11_will 8 rfl) k_b_60 ?_
      refine x_ic_le 23 (x_at tdX11_will 9 rfl) rfl (fun c => ?_) (fun c => ?_)
      · have H := H.1 c
        refine x_aload_n (x_at tdX11_will 12 rfl) rfl rfl ?_
        refine gfC_0_7 (x_at tdX11_will 13 rfl) wf_X11_57 ?_
        refine x_iload_n (x_at tdX11_will 14 rfl) rfl rfl ?_
        refine x_iload_n (x_at tdX11_will 15 rfl) rfl rfl ?_
        refine x_cVi (as := [.int x1, .int x2]) (rest := []) mi_X6_stateBehind vc_6 (lC_52 h) (x_at tdX11_will 16 rfl) wm_X11_268 rfl (Nat.le_of_ble_eq_true rfl) rfl H (fun r2 S2 H => ?_)
        exact x_ireturn (ty := .int) rfl rfl (x_at tdX11_will 17 rfl) ⟨_, rfl, H⟩
      · have H := H.2 c
        refine x_iconst (x_at tdX11_will 10 rfl) k_c_m1 ?_
        exact x_ireturn (ty := .int) rfl rfl (x_at tdX11_will 11 rfl) ⟨_, rfl, H⟩
theorem e_Rg_worthOf_2 {h : xH} {d : Nat} {x1 : Int32} {x2 : Int32} {S : xSt} {K : Int32 → xSt → Prop}  (H : (vp_in ((x1 * (6 : Int32)) + x2) 36 ∧ K (S.1 14 (((x1 * (6 : Int32)) + x2) : Int32).toNatClampNeg) S)) : M_Rg_worthOf_2 h d x1 x2 S K := by
  refine x_enter pn_X5 (Nat.le_of_ble_eq_true rfl) ?_
  show X (gC h) _ _ 0 [(0, .ref (x_ad (gC h) 2)), (1, .int x1), (2, .int x2)] [] S _
  refine x_aload_n (x_at tdX5_worthOf 0 rfl) rfl rfl ?_
  refine gfC_2_15 (x_at tdX5_worthOf 1 rfl) wf_X5_45 ?_
  refine x_iload_n (x_at tdX5_worthOf 2 rfl) rfl rfl ?_
  refine x_bipush (x_at tdX5_worthOf 3 rfl) k_b_6 ?_
  refine x_imul (x_at tdX5_worthOf 4 rfl) ?_
  refine x_iload_n (x_at tdX5_worthOf 5 rfl) rfl rfl ?_
  refine x_iadd (x_at tdX5_worthOf 6 rfl) ?_
  refine x_iald (lC_14 h) (x_at tdX5_worthOf 7 rfl) H.1 ?_
  have H := H.2
  exact x_ireturn (ty := .int) rfl rfl (x_at tdX5_worthOf 8 rfl) ⟨_, rfl, H⟩
theorem e_Tr_copyWith {h : xH} {d : Nat} {r1 : Nat} {S : xSt} {K : xSt → Prop} {nr1 : Nat} (hr1 : layC[r1]? = some (.inl (0, nr1))) (H : B_Tr_copyWith_2 h d r1 0 S K) : M_Tr_copyWith h d r1 S K := by
  refine x_enter pn_X8 (Nat.le_of_ble_eq_true rfl) ?_
  show X (gC h) _ _ 0 [(0, .ref (x_ad (gC h) 53)), (1, .ref (x_ad (gC h) r1))] [] S _
  refine x_iconst (x_at tdX8_copyWith 0 rfl) k_c_0 ?_
  refine x_istore_n (x_at tdX8_copyWith 1 rfl) rfl (by decide) ?_
  refine x_weak (lv' := [(0, .ref (x_ad (gC h) 53)), (1, .ref (x_ad (gC h) r1)), (2, .int 0)]) ⟨rfl, rfl, rfl, trivial⟩ ?_
  exact H
theorem b_Tr_copyWith_2 {h : xH} {d : Nat} {r1 : Nat} {x2 : Int32} {S : xSt} {K : xSt → Prop} {nr1 : Nat} (hr1 : layC[r1]? = some (.inl (0, nr1))) (H : ((6 ≤ x2 → K S) ∧ (¬ 6 ≤ x2 → (((nI nr1) ≤ x2 → K S) ∧ (¬ (nI nr1) ≤ x2 → (vp_in x2 6 ∧ (vp_in x2 nr1 ∧ B_Tr_copyWith_2 h d r1 (x2 + 1) (x_putI S r1 (x2 : Int32).toNatClampNeg (S.1 54 (x2 : Int32).toNatClampNeg)) K))))))) : B_Tr_copyWith_2 h d r1 x2 S K := by
  unfold B_Tr_copyWith_2
  refine x_iload_n (x_at tdX8_copyWith 2 rfl) rfl rfl ?_
  refine x_bipush (x_at tdX8_copyWith 3 rfl) k_b_6 ?_
  refine x_ic_ge 29 (x_at tdX8_copyWith 4 rfl) rfl (fun c => ?_) (fun c => ?_)
  · have H := H.1 c
    exact x_return rfl (x_at tdX8_copyWith 18 rfl) ⟨rfl, H⟩
  · have H := H.2 c
    refine x_iload_n (x_at tdX8_copyWith 5 rfl) rfl rfl ?_
    refine x_aload_n (x_at tdX8_copyWith 6 rfl) rfl rfl ?_
    refine x_alen (by decide) hr1 (x_at tdX8_copyWith 7 rfl) ?_
    refine x_ic_ge 29 (x_at tdX8_copyWith 8 rfl) rfl (fun c => ?_) (fun c => ?_)
    · have H := H.1 c
      exact x_return rfl (x_at tdX8_copyWith 18 rfl) ⟨rfl, H⟩
    · have H := H.2 c
      refine x_aload_n (x_at tdX8_copyWith 9 rfl) rfl rfl ?_
      refine x_iload_n (x_at tdX8_copyWith 10 rfl) rfl rfl ?_
      refine x_aload_n (x_at tdX8_copyWith 11 rfl) rfl rfl ?_
      refine gfC_53_1 (x_at tdX8_copyWith 12 rfl) wf_X8_9 ?_
      refine x_iload_n (x_at tdX8_copyWith 13 rfl) rfl rfl ?_
      refine x_iald (lC_54 h) (x_at tdX8_copyWith 14 rfl) H.1 ?_
      have H := H.2
      refine x_iast hr1 (x_at tdX8_copyWith 15 rfl) H.1 ?_
      have H := H.2
      refine x_iinc (x_at tdX8_copyWith 16 rfl) rfl (k_inc_1 _) (by decide) ?_
      refine x_goto 2 (x_at tdX8_copyWith 17 rfl) rfl ?_
      refine x_weak (lv' := [(0, .ref (x_ad (gC h) 53)), (1, .ref (x_ad (gC h) r1)), (2, .int (x2 + 1))]) ⟨rfl, rfl, rfl, trivial⟩ ?_
      exact H
theorem e_Tr_has {h : xH} {d : Nat} {x1 : Int32} {S : xSt} {K : Int32 → xSt → Prop}  (H : (vp_in x1 6 ∧ M_Rg_hasMan_2 h d (S.1 54 (x1 : Int32).toNatClampNeg) S (fun (r1 : Int32) (S1 : xSt) => ((r1 = 0 → K 0 S1) ∧ (¬ r1 = 0 → (vp_in x1 6 ∧ M_Rg_worthOf_2 h d x1 (S1.1 54 (x1 : Int32).toNatClampNeg) S1 (fun (r2 : Int32) (S2 : xSt) => K r2 S2))))))) : M_Tr_has h d x1 S K := by
  refine x_enter pn_X8 (Nat.le_of_ble_eq_true rfl) ?_
  show X (gC h) _ _ 0 [(0, .ref (x_ad (gC h) 53)), (1, .int x1)] [] S _
  refine x_aload_n (x_at tdX8_has 0 rfl) rfl rfl ?_
  refine gfC_53_0 (x_at tdX8_has 1 rfl) wf_X8_21 ?_
  refine x_aload_n (x_at tdX8_has 2 rfl) rfl rfl ?_
  refine gfC_53_1 (x_at tdX8_has 3 rfl) wf_X8_9 ?_
  refine x_iload_n (x_at tdX8_has 4 rfl) rfl rfl ?_
  refine x_iald (lC_54 h) (x_at tdX8_has 5 rfl) H.1 ?_
  have H := H.2
  refine x_cVi (as := [.int (S.1 54 (x1 : Int32).toNatClampNeg)]) (rest := []) mi_X5_hasMan vc_5 (lC_2 h) (x_at tdX8_has 6 rfl) wm_X8_64 rfl (Nat.le_of_ble_eq_true rfl) rfl H (fun r1 S1 H => ?_)
  refine x_if_eq 33 (x_at tdX8_has 7 rfl) rfl (fun c => ?_) (fun c => ?_)
  · have H := H.1 c
    refine x_iconst (x_at tdX8_has 17 rfl) k_c_0 ?_
    exact x_ireturn (ty := .int) rfl rfl (x_at tdX8_has 18 rfl) ⟨_, rfl, H⟩
  · have H := H.2 c
    refine x_aload_n (x_at tdX8_has 8 rfl) rfl rfl ?_
    refine gfC_53_0 (x_at tdX8_has 9 rfl) wf_X8_21 ?_
    refine x_iload_n (x_at tdX8_has 10 rfl) rfl rfl ?_
    refine x_aload_n (x_at tdX8_has 11 rfl) rfl rfl ?_
    refine gfC_53_1 (x_at tdX8_has 12 rfl) wf_X8_9 ?_
    refine x_iload_n (x_at tdX8_has 13 rfl) rfl rfl ?_
    refine x_iald (lC_54 h) (x_at tdX8_has 14 rfl) H.1 ?_
    have H := H.2
    refine x_cVi (as := [.int x1, .int (S1.1 54 (x1 : Int32).toNatClampNeg)]) (rest := []) mi_X5_worthOf vc_5 (lC_2 h) (x_at tdX8_has 15 rfl) wm_X8_48 rfl (Nat.le_of_ble_eq_true rfl) rfl H (fun r2 S2 H => ?_)
    refine x_goto 34 (x_at tdX8_has 16 rfl) rfl ?_
    exact x_ireturn (ty := .int) rfl rfl (x_at tdX8_has 18 rfl) ⟨_, rfl, H⟩
theorem e_Tr_isCalm {h : xH} {d : Nat}  {S : xSt} {K : Int32 → xSt → Prop}  (H : B_Tr_isCalm_2 h d 0 S K) : M_Tr_isCalm h d S K := by
  refine x_enter pn_X8 (Nat.le_of_ble_eq_true rfl) ?_
  show X (gC h) _ _ 0 [(0, .ref (x_ad (gC h) 53))] [] S _
  refine x_iconst (x_at tdX8_isCalm 0 rfl) k_c_0 ?_
  refine x_istore_n (x_at tdX8_isCalm 1 rfl) rfl (by decide) ?_
  refine x_weak (lv' := [(0, .ref (x_ad (gC h) 53)), (1, .int 0)]) ⟨rfl, rfl, trivial⟩ ?_
  exact H
theorem b_Tr_isCalm_2 {h : xH} {d : Nat}  {x1 : Int32} {S : xSt} {K : Int32 → xSt → Prop}  (H : (((S.1 2 0) ≤ x1 → K 1 S) ∧ (¬ (S.1 2 0) ≤ x1 → B_Tr_isCalm_17 h d x1 (x1 + (1 : Int32)) S K))) : B_Tr_isCalm_2 h d x1 S K := by
  unfold B_Tr_isCalm_2
  refine x_iload_n (x_at tdX8_isCalm 2 rfl) rfl rfl ?_
  refine x_aload_n (x_at tdX8_isCalm 3 rfl) rfl rfl ?_
  refine gfC_53_0 (x_at tdX8_isCalm 4 rfl) wf_X8_21 ?_
  refine gfC_2_0 (x_at tdX8_isCalm 5 rfl) wf_X8_40 ?_
  refine x_ic_ge 70 (x_at tdX8_isCalm 6 rfl) rfl (fun c => ?_) (fun c => ?_)
  · have H := H.1 c
    refine x_iconst (x_at tdX8_isCalm 38 rfl) k_c_1 ?_
    exact x_ireturn (ty := .boolean) rfl zb1.1 (x_at tdX8_isCalm 39 rfl) ⟨_, rfl, H⟩
  · have H := H.2 c
    refine x_iload_n (x_at tdX8_isCalm 7 rfl) rfl rfl ?_
    refine x_iconst (x_at tdX8_isCalm 8 rfl) k_c_1 ?_
    refine x_iadd (x_at tdX8_isCalm 9 rfl) ?_
    refine x_istore_n (x_at tdX8_isCalm 10 rfl) rfl (by decide) ?_
    refine x_weak (lv' := [(0, .ref (x_ad (gC h) 53)), (1, .int x1), (2, .int (x1 + (1 : Int32)))]) ⟨rfl, rfl, rfl, trivial⟩ ?_
    exact H
theorem b_Tr_isCalm_17 {h : xH} {d : Nat}  {x1 : Int32} {x2 : Int32} {S : xSt} {K : Int32 → xSt → Prop}  (H : (((S.1 2 0) ≤ x2 → B_Tr_isCalm_2 h d (x1 + 1) S K) ∧ (¬ (S.1 2 0) ≤ x2 → M_Rg_worthOf_2 h (d + 1) x1 x2 S (fun (r1 : Int32) (S1 : xSt) => M_Tr_has h d x1 S1 (fun (r2 : Int32) (S2 : xSt) => ((r1 ≤ r2 → B_Tr_isCalm_58 h d x1 x2 S2 K) ∧ (¬ r1 ≤ r2 → M_Tr_has h d x2 S2 (fun (r3 : Int32) (S3 : xSt) => ((r1 ≤ r3 → B_Tr_isCalm_58 h d x1 x2 S3 K) ∧ (¬ r1 ≤ r3 → K 0 S3)))))))))) : B_Tr_isCalm_17 h d x1 x2 S K := by
  unfold B_Tr_isCalm_17
  refine x_iload_n (x_at tdX8_isCalm 11 rfl) rfl rfl ?_
  refine x_aload_n (x_at tdX8_isCalm 12 rfl) rfl rfl ?_
  refine gfC_53_0 (x_at tdX8_isCalm 13 rfl) wf_X8_21 ?_
  refine gfC_2_0 (x_at tdX8_isCalm 14 rfl) wf_X8_40 ?_
  refine x_ic_ge 64 (x_at tdX8_isCalm 15 rfl) rfl (fun c => ?_) (fun c => ?_)
  · have H := H.1 c
    refine x_iinc (x_at tdX8_isCalm 36 rfl) rfl (k_inc_1 _) (by decide) ?_
    refine x_goto 2 (x_at tdX8_isCalm 37 rfl) rfl ?_
    refine x_weak (lv' := [(0, .ref (x_ad (gC h) 53)), (1, .int (x1 + 1))]) ⟨rfl, rfl, trivial⟩ ?_
    exact H
  · have H := H.2 c
    refine x_aload_n (x_at tdX8_isCalm 16 rfl) rfl rfl ?_
    refine gfC_53_0 (x_at tdX8_isCalm 17 rfl) wf_X8_21 ?_
    refine x_iload_n (x_at tdX8_isCalm 18 rfl) rfl rfl ?_
    refine x_iload_n (x_at tdX8_isCalm 19 rfl) rfl rfl ?_
    refine x_cVi (as := [.int x1, .int x2]) (rest := []) mi_X5_worthOf vc_5 (lC_2 h) (x_at tdX8_isCalm 20 rfl) wm_X8_48 rfl (Nat.le_of_ble_eq_true rfl) rfl H (fun r1 S1 H => ?_)
    refine x_istore_n (x_at tdX8_isCalm 21 rfl) rfl (by decide) ?_
    refine x_iload_n (x_at tdX8_isCalm 22 rfl) rfl rfl ?_
    refine x_aload_n (x_at tdX8_isCalm 23 rfl) rfl rfl ?_
    refine x_iload_n (x_at tdX8_isCalm 24 rfl) rfl rfl ?_
    refine x_cVi (as := [.int x1]) (rest := [.int r1]) mi_X8_has vc_8 (lC_53 h) (x_at tdX8_isCalm 25 rfl) wm_X8_52 rfl (Nat.le_of_ble_eq_true rfl) rfl H (fun r2 S2 H => ?_)
    refine x_ic_le 58 (x_at tdX8_isCalm 26 rfl) rfl (fun c => ?_) (fun c => ?_)
    · have H := H.1 c
      refine x_weak (lv' := [(0, .ref (x_ad (gC h) 53)), (1, .int x1), (2, .int x2)]) ⟨rfl, rfl, rfl, trivial⟩ ?_
      exact H
    · have H := H.2 c
      refine x_iload_n (x_at tdX8_isCalm 27 rfl) rfl rfl ?_
      refine x_aload_n (x_at tdX8_isCalm 28 rfl) rfl rfl ?_
      refine x_iload_n (x_at tdX8_isCalm 29 rfl) rfl rfl ?_
      refine x_cVi (as := [.int x2]) (rest := [.int r1]) mi_X8_has vc_8 (lC_53 h) (x_at tdX8_isCalm 30 rfl) wm_X8_52 rfl (Nat.le_of_ble_eq_true rfl) rfl H (fun r3 S3 H => ?_)
      refine x_ic_le 58 (x_at tdX8_isCalm 31 rfl) rfl (fun c => ?_) (fun c => ?_)
      · have H := H.1 c
        refine x_weak (lv' := [(0, .ref (x_ad (gC h) 53)), (1, .int x1), (2, .int x2)]) ⟨rfl, rfl, rfl, trivial⟩ ?_
        exact H
      · have H := H.2 c
        refine x_iconst (x_at tdX8_isCalm 32 rfl) k_c_0 ?_
        exact x_ireturn (ty := .boolean) rfl zb0.1 (x_at tdX8_isCalm 33 rfl) ⟨_, rfl, H⟩
theorem b_Tr_isCalm_58 {h : xH} {d : Nat}  {x1 : Int32} {x2 : Int32} {S : xSt} {K : Int32 → xSt → Prop}  (H : B_Tr_isCalm_17 h d x1 (x2 + 1) S K) : B_Tr_isCalm_58 h d x1 x2 S K := by
  unfold B_Tr_isCalm_58
  refine x_iinc (x_at tdX8_isCalm 34 rfl) rfl (k_inc_1 _) (by decide) ?_
  refine x_goto 17 (x_at tdX8_isCalm 35 rfl) rfl ?_
  refine x_weak (lv' := [(0, .ref (x_ad (gC h) 53)), (1, .int x1), (2, .int (x2 + 1))]) ⟨rfl, rfl, rfl, trivial⟩ ?_
  exact H
theorem e_Tr_weigh {h : xH} {d : Nat}  {S : xSt} {K : xSt → Prop}  (H : B_Tr_weigh_4 h d 0 0 S K) : M_Tr_weigh h d S K := by
  refine x_enter pn_X8 (Nat.le_of_ble_eq_true rfl) ?_
  show X (gC h) _ _ 0 [(0, .ref (x_ad (gC h) 53))] [] S _
  refine x_iconst (x_at tdX8_weigh 0 rfl) k_c_0 ?_
  refine x_istore_n (x_at tdX8_weigh 1 rfl) rfl (by decide) ?_
  refine x_iconst (x_at tdX8_weigh 2 rfl) k_c_0 ?_
  refine x_istore_n (x_at tdX8_weigh 3 rfl) rfl (by decide) ?_
  refine x_weak (lv' := [(0, .ref (x_ad (gC h) 53)), (1, .int 0), (2, .int 0)]) ⟨rfl, rfl, rfl, trivial⟩ ?_
  exact H
theorem b_Tr_weigh_4 {h : xH} {d : Nat}  {x1 : Int32} {x2 : Int32} {S : xSt} {K : xSt → Prop}  (H : (((S.1 2 0) ≤ x2 → (((S.1 53 6) = 0 → B_Tr_weigh_58 h d x1 S K) ∧ (¬ (S.1 53 6) = 0 → ((x1 ≤ (S.1 53 3) → B_Tr_weigh_76 h d S K) ∧ (¬ x1 ≤ (S.1 53 3) → B_Tr_weigh_58 h d x1 S K))))) ∧ (¬ (S.1 2 0) ≤ x2 → (vp_in x2 6 ∧ (((S.1 54 (x2 : Int32).toNatClampNeg) ≤ x2 → B_Tr_weigh_35 h d x2 0 x1 S K) ∧ (¬ (S.1 54 (x2 : Int32).toNatClampNeg) ≤ x2 → M_Tr_has h (d + 1) x2 S (fun (r1 : Int32) (S1 : xSt) => B_Tr_weigh_35 h d x2 r1 x1 S1 K))))))) : B_Tr_weigh_4 h d x1 x2 S K := by
  unfold B_Tr_weigh_4
  refine x_iload_n (x_at tdX8_weigh 4 rfl) rfl rfl ?_
  refine x_aload_n (x_at tdX8_weigh 5 rfl) rfl rfl ?_
  refine gfC_53_0 (x_at tdX8_weigh 6 rfl) wf_X8_21 ?_
  refine gfC_2_0 (x_at tdX8_weigh 7 rfl) wf_X8_40 ?_
  refine x_ic_ge 43 (x_at tdX8_weigh 8 rfl) rfl (fun c => ?_) (fun c => ?_)
  · have H := H.1 c
    refine x_aload_n (x_at tdX8_weigh 25 rfl) rfl rfl ?_
    refine gfC_53_6 (x_at tdX8_weigh 26 rfl) wf_X8_25 ?_
    refine x_if_eq 58 (x_at tdX8_weigh 27 rfl) rfl (fun c => ?_) (fun c => ?_)
    · have H := H.1 c
      refine x_weak (lv' := [(0, .ref (x_ad (gC h) 53)), (1, .int x1)]) ⟨rfl, rfl, trivial⟩ ?_
      exact H
    · have H := H.2 c
      refine x_iload_n (x_at tdX8_weigh 28 rfl) rfl rfl ?_
      refine x_aload_n (x_at tdX8_weigh 29 rfl) rfl rfl ?_
      refine gfC_53_3 (x_at tdX8_weigh 30 rfl) wf_X8_29 ?_
      refine x_ic_le 76 (x_at tdX8_weigh 31 rfl) rfl (fun c => ?_) (fun c => ?_)
      · have H := H.1 c
        refine x_weak (lv' := [(0, .ref (x_ad (gC h) 53))]) ⟨rfl, trivial⟩ ?_
        exact H
      · have H := H.2 c
        refine x_weak (lv' := [(0, .ref (x_ad (gC h) 53)), (1, .int x1)]) ⟨rfl, rfl, trivial⟩ ?_
        exact H
  · have H := H.2 c
    refine x_iload_n (x_at tdX8_weigh 9 rfl) rfl rfl ?_
    refine x_aload_n (x_at tdX8_weigh 10 rfl) rfl rfl ?_
    refine gfC_53_1 (x_at tdX8_weigh 11 rfl) wf_X8_9 ?_
    refine x_iload_n (x_at tdX8_weigh 12 rfl) rfl rfl ?_
    refine x_iald (lC_54 h) (x_at tdX8_weigh 13 rfl) H.1 ?_
    have H := H.2
    refine x_iload_n (x_at tdX8_weigh 14 rfl) rfl rfl ?_
    refine x_ic_le 34 (x_at tdX8_weigh 15 rfl) rfl (fun c => ?_) (fun c => ?_)
    · have H := H.1 c
      refine x_iconst (x_at tdX8_weigh 20 rfl) k_c_0 ?_
      refine x_weak (lv' := [(0, .ref (x_ad (gC h) 53)), (2, .int x2)]) ⟨rfl, rfl, trivial⟩ ?_
      exact H
    · have H := H.2 c
      refine x_aload_n (x_at tdX8_weigh 16 rfl) rfl rfl ?_
      refine x_iload_n (x_at tdX8_weigh 17 rfl) rfl rfl ?_
      refine x_cVi (as := [.int x2]) (rest := [.int x1]) mi_X8_has vc_8 (lC_53 h) (x_at tdX8_weigh 18 rfl) wm_X8_52 rfl (Nat.le_of_ble_eq_true rfl) rfl H (fun r1 S1 H => ?_)
      refine x_goto 35 (x_at tdX8_weigh 19 rfl) rfl ?_
      refine x_weak (lv' := [(0, .ref (x_ad (gC h) 53)), (2, .int x2)]) ⟨rfl, rfl, trivial⟩ ?_
      exact H
theorem b_Tr_weigh_35 {h : xH} {d : Nat}  {x2 : Int32} {s0 : Int32} {s1 : Int32} {S : xSt} {K : xSt → Prop}  (H : B_Tr_weigh_4 h d (s1 + s0) (x2 + 1) S K) : B_Tr_weigh_35 h d x2 s0 s1 S K := by
  unfold B_Tr_weigh_35
  refine x_iadd (x_at tdX8_weigh 21 rfl) ?_
  refine x_istore_n (x_at tdX8_weigh 22 rfl) rfl (by decide) ?_
  refine x_iinc (x_at tdX8_weigh 23 rfl) rfl (k_inc_1 _) (by decide) ?_
  refine x_goto 4 (x_at tdX8_weigh 24 rfl) rfl ?_
  refine x_weak (lv' := [(0, .ref (x_ad (gC h) 53)), (1, .int (s1 + s0)), (2, .int (x2 + 1))]) ⟨rfl, rfl, rfl, trivial⟩ ?_
  exact H
theorem b_Tr_weigh_58 {h : xH} {d : Nat}  {x1 : Int32} {S : xSt} {K : xSt → Prop}  (H : M_Tr_copyWith h (d + 2) 55 (x_putI (x_putI S 53 6 1) 53 3 x1) (fun (S1 : xSt) => B_Tr_weigh_76 h d S1 K)) : B_Tr_weigh_58 h d x1 S K := by
  unfold B_Tr_weigh_58
  refine x_aload_n (x_at tdX8_weigh 32 rfl) rfl rfl ?_
  refine x_iconst (x_at tdX8_weigh 33 rfl) k_c_1 ?_
  refine pfC_53_6 (x_at tdX8_weigh 34 rfl) wf_X8_25 zb1 ?_
  refine x_aload_n (x_at tdX8_weigh 35 rfl) rfl rfl ?_
  refine x_iload_n (x_at tdX8_weigh 36 rfl) rfl rfl ?_
  refine pfC_53_3 (x_at tdX8_weigh 37 rfl) wf_X8_29 ?_
  refine x_aload_n (x_at tdX8_weigh 38 rfl) rfl rfl ?_
  refine x_aload_n (x_at tdX8_weigh 39 rfl) rfl rfl ?_
  refine gfC_53_2 (x_at tdX8_weigh 40 rfl) wf_X8_15 ?_
  refine x_cVv (as := [.ref (x_ad (gC h) 55)]) (rest := []) mi_X8_copyWith vc_8 (lC_53 h) (x_at tdX8_weigh 41 rfl) wm_X8_56 rfl (Nat.le_of_ble_eq_true rfl) rfl H (fun S1 H => ?_)
  refine x_weak (lv' := [(0, .ref (x_ad (gC h) 53))]) ⟨rfl, trivial⟩ ?_
  exact H
theorem b_Tr_weigh_76 {h : xH} {d : Nat}   {S : xSt} {K : xSt → Prop}  (H : M_Tr_isCalm h d S (fun (r1 : Int32) (S1 : xSt) => ((r1 = 0 → K S1) ∧ (¬ r1 = 0 → ((¬ (S1.1 53 5) = 0 → B_Tr_weigh_98 h d S1 K) ∧ ((S1.1 53 5) = 0 → M_Tr_copyWith h (d + 2) 56 S1 (fun (S2 : xSt) => B_Tr_weigh_98 h d S2 K))))))) : B_Tr_weigh_76 h d S K := by
  unfold B_Tr_weigh_76
  refine x_aload_n (x_at tdX8_weigh 42 rfl) rfl rfl ?_
  refine x_cVi (as := []) (rest := []) mi_X8_isCalm vc_8 (lC_53 h) (x_at tdX8_weigh 43 rfl) wm_X8_60 rfl (Nat.le_of_ble_eq_true rfl) rfl H (fun r1 S1 H => ?_)
  refine x_if_eq 108 (x_at tdX8_weigh 44 rfl) rfl (fun c => ?_) (fun c => ?_)
  · have H := H.1 c
    exact x_return rfl (x_at tdX8_weigh 58 rfl) ⟨rfl, H⟩
  · have H := H.2 c
    refine x_aload_n (x_at tdX8_weigh 45 rfl) rfl rfl ?_
    refine gfC_53_5 (x_at tdX8_weigh 46 rfl) wf_X8_33 ?_
    refine x_if_ne 98 (x_at tdX8_weigh 47 rfl) rfl (fun c => ?_) (fun c => ?_)
    · have H := H.1 c
      refine x_weak (lv' := [(0, .ref (x_ad (gC h) 53))]) ⟨rfl, trivial⟩ ?_
      exact H
    · have H := H.2 c
      refine x_aload_n (x_at tdX8_weigh 48 rfl) rfl rfl ?_
      refine x_aload_n (x_at tdX8_weigh 49 rfl) rfl rfl ?_
      refine gfC_53_4 (x_at tdX8_weigh 50 rfl) wf_X8_18 ?_
      refine x_cVv (as := [.ref (x_ad (gC h) 56)]) (rest := []) mi_X8_copyWith vc_8 (lC_53 h) (x_at tdX8_weigh 51 rfl) wm_X8_56 rfl (Nat.le_of_ble_eq_true rfl) rfl H (fun S2 H => ?_)
      refine x_weak (lv' := [(0, .ref (x_ad (gC h) 53))]) ⟨rfl, trivial⟩ ?_
      exact H
theorem b_Tr_weigh_98 {h : xH} {d : Nat}   {S : xSt} {K : xSt → Prop}  (H : K (x_putI S 53 5 ((S.1 53 5) + (1 : Int32)))) : B_Tr_weigh_98 h d S K := by
  unfold B_Tr_weigh_98
  refine x_aload_n (x_at tdX8_weigh 52 rfl) rfl rfl ?_
  refine x_dup (x_at tdX8_weigh 53 rfl) rfl ?_
  refine gfC_53_5 (x_at tdX8_weigh 54 rfl) wf_X8_33 ?_
  refine x_iconst (x_at tdX8_weigh 55 rfl) k_c_1 ?_
  refine x_iadd (x_at tdX8_weigh 56 rfl) ?_
  refine pfC_53_5 (x_at tdX8_weigh 57 rfl) wf_X8_33 ?_
  exact x_return rfl (x_at tdX8_weigh 58 rfl) ⟨rfl, H⟩
theorem e_Tr_pairFrom {h : xH} {d : Nat} {x1 : Int32} {S : xSt} {K : xSt → Prop}  (H : ((x1 < (S.1 2 0) → (vp_in x1 6 ∧ (((S.1 54 (x1 : Int32).toNatClampNeg) = (-1) → B_Tr_pairFrom_31 h d x1 0 S K) ∧ (¬ (S.1 54 (x1 : Int32).toNatClampNeg) = (-1) → B_Tr_pairFrom_31 h d x1 1 S K)))) ∧ (¬ x1 < (S.1 2 0) → M_Tr_weigh h (d + 1) S (fun (S1 : xSt) => K S1)))) : M_Tr_pairFrom h (d + 1) x1 S K := by
  refine x_enter pn_X8 (Nat.le_of_ble_eq_true rfl) ?_
  show X (gC h) _ _ 0 [(0, .ref (x_ad (gC h) 53)), (1, .int x1)] [] S _
  refine x_iload_n (x_at tdX8_pairFrom 0 rfl) rfl rfl ?_
  refine x_aload_n (x_at tdX8_pairFrom 1 rfl) rfl rfl ?_
  refine gfC_53_0 (x_at tdX8_pairFrom 2 rfl) wf_X8_21 ?_
  refine gfC_2_0 (x_at tdX8_pairFrom 3 rfl) wf_X8_40 ?_
  refine x_ic_lt 16 (x_at tdX8_pairFrom 4 rfl) rfl (fun c => ?_) (fun c => ?_)
  · have H := H.1 c
    refine x_aload_n (x_at tdX8_pairFrom 8 rfl) rfl rfl ?_
    refine gfC_53_1 (x_at tdX8_pairFrom 9 rfl) wf_X8_9 ?_
    refine x_iload_n (x_at tdX8_pairFrom 10 rfl) rfl rfl ?_
    refine x_iald (lC_54 h) (x_at tdX8_pairFrom 11 rfl) H.1 ?_
    have H := H.2
    refine x_iconst (x_at tdX8_pairFrom 12 rfl) k_c_m1 ?_
    refine x_ic_eq 30 (x_at tdX8_pairFrom 13 rfl) rfl (fun c => ?_) (fun c => ?_)
    · have H := H.1 c
      refine x_iconst (x_at tdX8_pairFrom 16 rfl) k_c_0 ?_
      refine x_weak (lv' := [(0, .ref (x_ad (gC h) 53)), (1, .int x1)]) ⟨rfl, rfl, trivial⟩ ?_
      exact H
    · have H := H.2 c
      refine x_iconst (x_at tdX8_pairFrom 14 rfl) k_c_1 ?_
      refine x_goto 31 (x_at tdX8_pairFrom 15 rfl) rfl ?_
      refine x_weak (lv' := [(0, .ref (x_ad (gC h) 53)), (1, .int x1)]) ⟨rfl, rfl, trivial⟩ ?_
      exact H
  · have H := H.2 c
    refine x_aload_n (x_at tdX8_pairFrom 5 rfl) rfl rfl ?_
    refine x_cVv (as := []) (rest := []) mi_X8_weigh vc_8 (lC_53 h) (x_at tdX8_pairFrom 6 rfl) wm_X8_45 rfl (Nat.le_of_ble_eq_true rfl) rfl H (fun S1 H => ?_)
    exact x_return rfl (x_at tdX8_pairFrom 7 rfl) ⟨rfl, H⟩
theorem b_Tr_pairFrom_31 {h : xH} {d : Nat}  {x1 : Int32} {s0 : Int32} {S : xSt} {K : xSt → Prop}  (H : M_Tr_pairFrom h d (x1 + (1 : Int32)) S (fun (S1 : xSt) => B_Tr_pairFrom_43 h d x1 s0 (x1 + (1 : Int32)) S1 K)) : B_Tr_pairFrom_31 h d x1 s0 S K := by
  unfold B_Tr_pairFrom_31
  refine x_istore_n (x_at tdX8_pairFrom 17 rfl) rfl (by decide) ?_
  refine x_aload_n (x_at tdX8_pairFrom 18 rfl) rfl rfl ?_
  refine x_iload_n (x_at tdX8_pairFrom 19 rfl) rfl rfl ?_
  refine x_iconst (x_at tdX8_pairFrom 20 rfl) k_c_1 ?_
  refine x_iadd (x_at tdX8_pairFrom 21 rfl) ?_
  refine x_cVv (as := [.int (x1 + (1 : Int32))]) (rest := []) mi_X8_pairFrom vc_8 (lC_53 h) (x_at tdX8_pairFrom 22 rfl) wm_X8_36 rfl (Nat.le_of_ble_eq_true rfl) rfl H (fun S1 H => ?_)
  refine x_iload_n (x_at tdX8_pairFrom 23 rfl) rfl rfl ?_
  refine x_iconst (x_at tdX8_pairFrom 24 rfl) k_c_1 ?_
  refine x_iadd (x_at tdX8_pairFrom 25 rfl) ?_
  refine x_istore_n (x_at tdX8_pairFrom 26 rfl) rfl (by decide) ?_
  refine x_weak (lv' := [(0, .ref (x_ad (gC h) 53)), (1, .int x1), (2, .int s0), (3, .int (x1 + (1 : Int32)))]) ⟨rfl, rfl, rfl, rfl, trivial⟩ ?_
  exact H
theorem b_Tr_pairFrom_43 {h : xH} {d : Nat}  {x1 : Int32} {x2 : Int32} {x3 : Int32} {S : xSt} {K : xSt → Prop}  (H : (((S.1 2 0) ≤ x3 → K S) ∧ (¬ (S.1 2 0) ≤ x3 → ((¬ x2 = 0 → K S) ∧ (x2 = 0 → (vp_in x3 6 ∧ ((¬ (S.1 54 (x3 : Int32).toNatClampNeg) = (-1) → B_Tr_pairFrom_117 h d x1 x2 x3 S K) ∧ ((S.1 54 (x3 : Int32).toNatClampNeg) = (-1) → M_Rg_worthOf_2 h (d + 4) x1 x3 S (fun (r1 : Int32) (S1 : xSt) => ((r1 = (-100) → B_Tr_pairFrom_117 h d x1 x2 x3 S1 K) ∧ (¬ r1 = (-100) → (vp_in x1 6 ∧ (vp_in x3 6 ∧ M_Tr_pairFrom h d (x1 + (1 : Int32)) (x_putI (x_putI S1 54 (x1 : Int32).toNatClampNeg x3) 54 (x3 : Int32).toNatClampNeg x1) (fun (S2 : xSt) => (vp_in x1 6 ∧ (vp_in x3 6 ∧ B_Tr_pairFrom_117 h d x1 x2 x3 (x_putI (x_putI S2 54 (x1 : Int32).toNatClampNeg (-1)) 54 (x3 : Int32).toNatClampNeg (-1)) K)))))))))))))))) : B_Tr_pairFrom_43 h d x1 x2 x3 S K := by
  unfold B_Tr_pairFrom_43
  refine x_iload_n (x_at tdX8_pairFrom 27 rfl) rfl rfl ?_
  refine x_aload_n (x_at tdX8_pairFrom 28 rfl) rfl rfl ?_
  refine gfC_53_0 (x_at tdX8_pairFrom 29 rfl) wf_X8_21 ?_
  refine gfC_2_0 (x_at tdX8_pairFrom 30 rfl) wf_X8_40 ?_
  refine x_ic_ge 123 (x_at tdX8_pairFrom 31 rfl) rfl (fun c => ?_) (fun c => ?_)
  · have H := H.1 c
    exact x_return rfl (x_at tdX8_pairFrom 74 rfl) ⟨rfl, H⟩
  · have H := H.2 c
    refine x_iload_n (x_at tdX8_pairFrom 32 rfl) rfl rfl ?_
    refine x_if_ne 123 (x_at tdX8_pairFrom 33 rfl) rfl (fun c => ?_) (fun c => ?_)
    · have H := H.1 c
      exact x_return rfl (x_at tdX8_pairFrom 74 rfl) ⟨rfl, H⟩
    · have H := H.2 c
      refine x_aload_n (x_at tdX8_pairFrom 34 rfl) rfl rfl ?_
      refine gfC_53_1 (x_at tdX8_pairFrom 35 rfl) wf_X8_9 ?_
      refine x_iload_n (x_at tdX8_pairFrom 36 rfl) rfl rfl ?_
      refine x_iald (lC_54 h) (x_at tdX8_pairFrom 37 rfl) H.1 ?_
      have H := H.2
      refine x_iconst (x_at tdX8_pairFrom 38 rfl) k_c_m1 ?_
      refine x_ic_ne 117 (x_at tdX8_pairFrom 39 rfl) rfl (fun c => ?_) (fun c => ?_)
      · have H := H.1 c
        refine x_weak (lv' := [(0, .ref (x_ad (gC h) 53)), (1, .int x1), (2, .int x2), (3, .int x3)]) ⟨rfl, rfl, rfl, rfl, trivial⟩ ?_
        exact H
      · have H := H.2 c
        refine x_aload_n (x_at tdX8_pairFrom 40 rfl) rfl rfl ?_
        refine gfC_53_0 (x_at tdX8_pairFrom 41 rfl) wf_X8_21 ?_
        refine x_iload_n (x_at tdX8_pairFrom 42 rfl) rfl rfl ?_
        refine x_iload_n (x_at tdX8_pairFrom 43 rfl) rfl rfl ?_
        refine x_cVi (as := [.int x1, .int x3]) (rest := []) mi_X5_worthOf vc_5 (lC_2 h) (x_at tdX8_pairFrom 44 rfl) wm_X8_48 rfl (Nat.le_of_ble_eq_true rfl) rfl H (fun r1 S1 H => ?_)
        refine x_bipush (x_at tdX8_pairFrom 45 rfl) k_b_m100 ?_
        refine x_ic_eq 117 (x_at tdX8_pairFrom 46 rfl) rfl (fun c => ?_) (fun c => ?_)
        · have H := H.1 c
          refine x_weak (lv' := [(0, .ref (x_ad (gC h) 53)), (1, .int x1), (2, .int x2), (3, .int x3)]) ⟨rfl, rfl, rfl, rfl, trivial⟩ ?_
          exact H
        · have H := H.2 c
          refine x_aload_n (x_at tdX8_pairFrom 47 rfl) rfl rfl ?_
          refine gfC_53_1 (x_at tdX8_pairFrom 48 rfl) wf_X8_9 ?_
          refine x_iload_n (x_at tdX8_pairFrom 49 rfl) rfl rfl ?_
          refine x_iload_n (x_at tdX8_pairFrom 50 rfl) rfl rfl ?_
          refine x_iast (lC_54 h) (x_at tdX8_pairFrom 51 rfl) H.1 ?_
          have H := H.2
          refine x_aload_n (x_at tdX8_pairFrom 52 rfl) rfl rfl ?_
          refine gfC_53_1 (x_at tdX8_pairFrom 53 rfl) wf_X8_9 ?_
          refine x_iload_n (x_at tdX8_pairFrom 54 rfl) rfl rfl ?_
          refine x_iload_n (x_at tdX8_pairFrom 55 rfl) rfl rfl ?_
          refine x_iast (lC_54 h) (x_at tdX8_pairFrom 56 rfl) H.1 ?_
          have H := H.2
          refine x_aload_n (x_at tdX8_pairFrom 57 rfl) rfl rfl ?_
          refine x_iload_n (x_at tdX8_pairFrom 58 rfl) rfl rfl ?_
          refine x_iconst (x_at tdX8_pairFrom 59 rfl) k_c_1 ?_
          refine x_iadd (x_at tdX8_pairFrom 60 rfl) ?_
          refine x_cVv (as := [.int (x1 + (1 : Int32))]) (rest := []) mi_X8_pairFrom vc_8 (lC_53 h) (x_at tdX8_pairFrom 61 rfl) wm_X8_36 rfl (Nat.le_of_ble_eq_true rfl) rfl H (fun S2 H => ?_)
          refine x_aload_n (x_at tdX8_pairFrom 62 rfl) rfl rfl ?_
          refine gfC_53_1 (x_at tdX8_pairFrom 63 rfl) wf_X8_9 ?_
          refine x_iload_n (x_at tdX8_pairFrom 64 rfl) rfl rfl ?_
          refine x_iconst (x_at tdX8_pairFrom 65 rfl) k_c_m1 ?_
          refine x_iast (lC_54 h) (x_at tdX8_pairFrom 66 rfl) H.1 ?_
          have H := H.2
          refine x_aload_n (x_at tdX8_pairFrom 67 rfl) rfl rfl ?_
          refine gfC_53_1 (x_at tdX8_pairFrom 68 rfl) wf_X8_9 ?_
          refine x_iload_n (x_at tdX8_pairFrom 69 rfl) rfl rfl ?_
          refine x_iconst (x_at tdX8_pairFrom 70 rfl) k_c_m1 ?_
          refine x_iast (lC_54 h) (x_at tdX8_pairFrom 71 rfl) H.1 ?_
          have H := H.2
          refine x_weak (lv' := [(0, .ref (x_ad (gC h) 53)), (1, .int x1), (2, .int x2), (3, .int x3)]) ⟨rfl, rfl, rfl, rfl, trivial⟩ ?_
          exact H
theorem b_Tr_pairFrom_117 {h : xH} {d : Nat}  {x1 : Int32} {x2 : Int32} {x3 : Int32} {S : xSt} {K : xSt → Prop}  (H : B_Tr_pairFrom_43 h d x1 x2 (x3 + 1) S K) : B_Tr_pairFrom_117 h d x1 x2 x3 S K := by
  unfold B_Tr_pairFrom_117
  refine x_iinc (x_at tdX8_pairFrom 72 rfl) rfl (k_inc_1 _) (by decide) ?_
  refine x_goto 43 (x_at tdX8_pairFrom 73 rfl) rfl ?_
  refine x_weak (lv' := [(0, .ref (x_ad (gC h) 53)), (1, .int x1), (2, .int x2), (3, .int (x3 + 1))]) ⟨rfl, rfl, rfl, rfl, trivial⟩ ?_
  exact H
theorem e_Tr_tryAll {h : xH} {d : Nat}  {S : xSt} {K : xSt → Prop}  (H : B_Tr_tryAll_17 h d 0 (x_putI (x_putI (x_putI S 53 6 0) 53 3 0) 53 5 0) K) : M_Tr_tryAll h d S K := by
  refine x_enter pn_X8 (Nat.le_of_ble_eq_true rfl) ?_
  show X (gC h) _ _ 0 [(0, .ref (x_ad (gC h) 53))] [] S _
  refine x_aload_n (x_at tdX8_tryAll 0 rfl) rfl rfl ?_
  refine x_iconst (x_at tdX8_tryAll 1 rfl) k_c_0 ?_
  refine pfC_53_6 (x_at tdX8_tryAll 2 rfl) wf_X8_25 zb0 ?_
  refine x_aload_n (x_at tdX8_tryAll 3 rfl) rfl rfl ?_
  refine x_iconst (x_at tdX8_tryAll 4 rfl) k_c_0 ?_
  refine pfC_53_3 (x_at tdX8_tryAll 5 rfl) wf_X8_29 ?_
  refine x_aload_n (x_at tdX8_tryAll 6 rfl) rfl rfl ?_
  refine x_iconst (x_at tdX8_tryAll 7 rfl) k_c_0 ?_
  refine pfC_53_5 (x_at tdX8_tryAll 8 rfl) wf_X8_33 ?_
  refine x_iconst (x_at tdX8_tryAll 9 rfl) k_c_0 ?_
  refine x_istore_n (x_at tdX8_tryAll 10 rfl) rfl (by decide) ?_
  refine x_weak (lv' := [(0, .ref (x_ad (gC h) 53)), (1, .int 0)]) ⟨rfl, rfl, trivial⟩ ?_
  exact H
theorem b_Tr_tryAll_17 {h : xH} {d : Nat}  {x1 : Int32} {S : xSt} {K : xSt → Prop}  (H : ((6 ≤ x1 → M_Tr_pairFrom h (d + 8) 0 S (fun (S1 : xSt) => K S1)) ∧ (¬ 6 ≤ x1 → (vp_in x1 6 ∧ B_Tr_tryAll_17 h d (x1 + 1) (x_putI S 54 (x1 : Int32).toNatClampNeg (-1)) K)))) : B_Tr_tryAll_17 h d x1 S K := by
  unfold B_Tr_tryAll_17
  refine x_iload_n (x_at tdX8_tryAll 11 rfl) rfl rfl ?_
  refine x_bipush (x_at tdX8_tryAll 12 rfl) k_b_6 ?_
  refine x_ic_ge 36 (x_at tdX8_tryAll 13 rfl) rfl (fun c => ?_) (fun c => ?_)
  · have H := H.1 c
    refine x_aload_n (x_at tdX8_tryAll 21 rfl) rfl rfl ?_
    refine x_iconst (x_at tdX8_tryAll 22 rfl) k_c_0 ?_
    refine x_cVv (as := [.int 0]) (rest := []) mi_X8_pairFrom vc_8 (lC_53 h) (x_at tdX8_tryAll 23 rfl) wm_X8_36 rfl (Nat.le_of_ble_eq_true rfl) rfl H (fun S1 H => ?_)
    exact x_return rfl (x_at tdX8_tryAll 24 rfl) ⟨rfl, H⟩
  · have H := H.2 c
    refine x_aload_n (x_at tdX8_tryAll 14 rfl) rfl rfl ?_
    refine gfC_53_1 (x_at tdX8_tryAll 15 rfl) wf_X8_9 ?_
    refine x_iload_n (x_at tdX8_tryAll 16 rfl) rfl rfl ?_
    refine x_iconst (x_at tdX8_tryAll 17 rfl) k_c_m1 ?_
    refine x_iast (lC_54 h) (x_at tdX8_tryAll 18 rfl) H.1 ?_
    have H := H.2
    refine x_iinc (x_at tdX8_tryAll 19 rfl) rfl (k_inc_1 _) (by decide) ?_
    refine x_goto 17 (x_at tdX8_tryAll 20 rfl) rfl ?_
    refine x_weak (lv' := [(0, .ref (x_ad (gC h) 53)), (1, .int (x1 + 1))]) ⟨rfl, rfl, trivial⟩ ?_
    exact H
theorem e_O_truce {h : xH} {d : Nat}  {S : xSt} {K : Int32 → xSt → Prop}  (H : M_Tr_tryAll h d S (fun (S1 : xSt) => M_O_layOut h (d + 12) 55 (S1.1 2 0) S1 (fun (S2 : xSt) => K (S2.1 53 3) S2))) : M_O_truce h d S K := by
  refine x_enter pn_X11 (Nat.le_of_ble_eq_true rfl) ?_
  show X (gC h) _ _ 0 [(0, .ref (x_ad (gC h) 0))] [] S _
  refine x_aload_n (x_at tdX11_truce 0 rfl) rfl rfl ?_
  refine gfC_0_8 (x_at tdX11_truce 1 rfl) wf_X11_64 ?_
  refine x_cVv (as := []) (rest := []) mi_X8_tryAll vc_8 (lC_53 h) (x_at tdX11_truce 2 rfl) wm_X11_271 rfl (Nat.le_of_ble_eq_true rfl) rfl H (fun S1 H => ?_)
  refine x_aload_n (x_at tdX11_truce 3 rfl) rfl rfl ?_
  refine x_aload_n (x_at tdX11_truce 4 rfl) rfl rfl ?_
  refine gfC_0_8 (x_at tdX11_truce 5 rfl) wf_X11_64 ?_
  refine gfC_53_2 (x_at tdX11_truce 6 rfl) wf_X11_274 ?_
  refine x_aload_n (x_at tdX11_truce 7 rfl) rfl rfl ?_
  refine gfC_0_2 (x_at tdX11_truce 8 rfl) wf_X11_16 ?_
  refine gfC_2_0 (x_at tdX11_truce 9 rfl) wf_X11_161 ?_
  refine x_cVv (as := [.ref (x_ad (gC h) 55), .int (S1.1 2 0)]) (rest := []) mi_X11_layOut vc_11 (lC_0 h) (x_at tdX11_truce 10 rfl) wm_X11_224 rfl (Nat.le_of_ble_eq_true rfl) rfl H (fun S2 H => ?_)
  refine x_aload_n (x_at tdX11_truce 11 rfl) rfl rfl ?_
  refine gfC_0_8 (x_at tdX11_truce 12 rfl) wf_X11_64 ?_
  refine gfC_53_3 (x_at tdX11_truce 13 rfl) wf_X11_277 ?_
  exact x_ireturn (ty := .int) rfl rfl (x_at tdX11_truce 14 rfl) ⟨_, rfl, H⟩
theorem e_O_calm {h : xH} {d : Nat}  {S : xSt} {K : Int32 → xSt → Prop}  (H : M_Tr_tryAll h d S (fun (S1 : xSt) => (((S1.1 53 5) ≤ 0 → M_O_layOut h (d + 12) 56 0 S1 (fun (S2 : xSt) => K (S2.1 53 5) S2)) ∧ (¬ (S1.1 53 5) ≤ 0 → M_O_layOut h (d + 12) 56 (S1.1 2 0) S1 (fun (S3 : xSt) => K (S3.1 53 5) S3))))) : M_O_calm h d S K := by
  refine x_enter pn_X11 (Nat.le_of_ble_eq_true rfl) ?_
  show X (gC h) _ _ 0 [(0, .ref (x_ad (gC h) 0))] [] S _
  refine x_aload_n (x_at tdX11_calm 0 rfl) rfl rfl ?_
  refine gfC_0_8 (x_at tdX11_calm 1 rfl) wf_X11_64 ?_
  refine x_cVv (as := []) (rest := []) mi_X8_tryAll vc_8 (lC_53 h) (x_at tdX11_calm 2 rfl) wm_X11_271 rfl (Nat.le_of_ble_eq_true rfl) rfl H (fun S1 H => ?_)
  refine x_aload_n (x_at tdX11_calm 3 rfl) rfl rfl ?_
  refine x_aload_n (x_at tdX11_calm 4 rfl) rfl rfl ?_
  refine gfC_0_8 (x_at tdX11_calm 5 rfl) wf_X11_64 ?_
  refine gfC_53_4 (x_at tdX11_calm 6 rfl) wf_X11_280 ?_
  refine x_aload_n (x_at tdX11_calm 7 rfl) rfl rfl ?_
  refine gfC_0_8 (x_at tdX11_calm 8 rfl) wf_X11_64 ?_
  refine gfC_53_5 (x_at tdX11_calm 9 rfl) wf_X11_283 ?_
  refine x_if_le 35 (x_at tdX11_calm 10 rfl) rfl (fun c => ?_) (fun c => ?_)
  · have H := H.1 c
    refine x_iconst (x_at tdX11_calm 15 rfl) k_c_0 ?_
    refine x_cVv (as := [.ref (x_ad (gC h) 56), .int 0]) (rest := []) mi_X11_layOut vc_11 (lC_0 h) (x_at tdX11_calm 16 rfl) wm_X11_224 rfl (Nat.le_of_ble_eq_true rfl) rfl H (fun S2 H => ?_)
    refine x_aload_n (x_at tdX11_calm 17 rfl) rfl rfl ?_
    refine gfC_0_8 (x_at tdX11_calm 18 rfl) wf_X11_64 ?_
    refine gfC_53_5 (x_at tdX11_calm 19 rfl) wf_X11_283 ?_
    exact x_ireturn (ty := .int) rfl rfl (x_at tdX11_calm 20 rfl) ⟨_, rfl, H⟩
  · have H := H.2 c
    refine x_aload_n (x_at tdX11_calm 11 rfl) rfl rfl ?_
    refine gfC_0_2 (x_at tdX11_calm 12 rfl) wf_X11_16 ?_
    refine gfC_2_0 (x_at tdX11_calm 13 rfl) wf_X11_161 ?_
    refine x_goto 36 (x_at tdX11_calm 14 rfl) rfl ?_
    refine x_cVv (as := [.ref (x_ad (gC h) 56), .int (S1.1 2 0)]) (rest := []) mi_X11_layOut vc_11 (lC_0 h) (x_at tdX11_calm 16 rfl) wm_X11_224 rfl (Nat.le_of_ble_eq_true rfl) rfl H (fun S3 H => ?_)
    refine x_aload_n (x_at tdX11_calm 17 rfl) rfl rfl ?_
    refine gfC_0_8 (x_at tdX11_calm 18 rfl) wf_X11_64 ?_
    refine gfC_53_5 (x_at tdX11_calm 19 rfl) wf_X11_283 ?_
    exact x_ireturn (ty := .int) rfl rfl (x_at tdX11_calm 20 rfl) ⟨_, rfl, H⟩
theorem e_O_likes {h : xH} {d : Nat} {x1 : Int32} {x2 : Int32} {S : xSt} {K : Int32 → xSt → Prop}  (H : M_Rg_hasMan_2 h d x1 S (fun (r1 : Int32) (S1 : xSt) => ((r1 = 0 → K (-100) S1) ∧ (¬ r1 = 0 → M_Rg_hasMan_2 h d x2 S1 (fun (r2 : Int32) (S2 : xSt) => ((¬ r2 = 0 → M_Rg_worthOf_2 h d x1 x2 S2 (fun (r3 : Int32) (S3 : xSt) => K r3 S3)) ∧ (r2 = 0 → K (-100) S2))))))) : M_O_likes h d x1 x2 S K := by
  refine x_enter pn_X11 (Nat.le_of_ble_eq_true rfl) ?_
  show X (gC h) _ _ 0 [(0, .ref (x_ad (gC h) 0)), (1, .int x1), (2, .int x2)] [] S _
  refine x_aload_n (x_at tdX11_likes 0 rfl) rfl rfl ?_
  refine gfC_0_2 (x_at tdX11_likes 1 rfl) wf_X11_16 ?_
  refine x_iload_n (x_at tdX11_likes 2 rfl) rfl rfl ?_
  refine x_cVi (as := [.int x1]) (rest := []) mi_X5_hasMan vc_5 (lC_2 h) (x_at tdX11_likes 3 rfl) wm_X11_158 rfl (Nat.le_of_ble_eq_true rfl) rfl H (fun r1 S1 H => ?_)
  refine x_if_eq 22 (x_at tdX11_likes 4 rfl) rfl (fun c => ?_) (fun c => ?_)
  · have H := H.1 c
    refine x_bipush (x_at tdX11_likes 10 rfl) k_b_m100 ?_
    exact x_ireturn (ty := .int) rfl rfl (x_at tdX11_likes 11 rfl) ⟨_, rfl, H⟩
  · have H := H.2 c
    refine x_aload_n (x_at tdX11_likes 5 rfl) rfl rfl ?_
    refine gfC_0_2 (x_at tdX11_likes 6 rfl) wf_X11_16 ?_
    refine x_iload_n (x_at tdX11_likes 7 rfl) rfl rfl ?_
    refine x_cVi (as := [.int x2]) (rest := []) mi_X5_hasMan vc_5 (lC_2 h) (x_at tdX11_likes 8 rfl) wm_X11_158 rfl (Nat.le_of_ble_eq_true rfl) rfl H (fun r2 S2 H => ?_)
    refine x_if_ne 25 (x_at tdX11_likes 9 rfl) rfl (fun c => ?_) (fun c => ?_)
    · have H := H.1 c
      refine x_aload_n (x_at tdX11_likes 12 rfl) rfl rfl ?_
      refine gfC_0_2 (x_at tdX11_likes 13 rfl) wf_X11_16 ?_
      refine x_iload_n (x_at tdX11_likes 14 rfl) rfl rfl ?_
      refine x_iload_n (x_at tdX11_likes 15 rfl) rfl rfl ?_
      refine x_cVi (as := [.int x1, .int x2]) (rest := []) mi_X5_worthOf vc_5 (lC_2 h) (x_at tdX11_likes 16 rfl) wm_X11_286 rfl (Nat.le_of_ble_eq_true rfl) rfl H (fun r3 S3 H => ?_)
      exact x_ireturn (ty := .int) rfl rfl (x_at tdX11_likes 17 rfl) ⟨_, rfl, H⟩
    · have H := H.2 c
      refine x_bipush (x_at tdX11_likes 10 rfl) k_b_m100 ?_
      exact x_ireturn (ty := .int) rfl rfl (x_at tdX11_likes 11 rfl) ⟨_, rfl, H⟩
theorem e_O_lies {h : xH} {d : Nat} {x1 : Int32} {S : xSt} {K : Int32 → xSt → Prop}  (H : ((x1 < 0 → K (-2) S) ∧ (¬ x1 < 0 → (((S.1 0 11) ≤ x1 → K (-2) S) ∧ (¬ (S.1 0 11) ≤ x1 → (vp_in x1 10 ∧ K (S.1 63 (x1 : Int32).toNatClampNeg) S)))))) : M_O_lies h d x1 S K := by
  refine x_enter pn_X11 (Nat.le_of_ble_eq_true rfl) ?_
  show X (gC h) _ _ 0 [(0, .ref (x_ad (gC h) 0)), (1, .int x1)] [] S _
  refine x_iload_n (x_at tdX11_lies 0 rfl) rfl rfl ?_
  refine x_if_lt 21 (x_at tdX11_lies 1 rfl) rfl (fun c => ?_) (fun c => ?_)
  · have H := H.1 c
    refine x_bipush (x_at tdX11_lies 11 rfl) k_b_m2 ?_
    exact x_ireturn (ty := .int) rfl rfl (x_at tdX11_lies 12 rfl) ⟨_, rfl, H⟩
  · have H := H.2 c
    refine x_iload_n (x_at tdX11_lies 2 rfl) rfl rfl ?_
    refine x_aload_n (x_at tdX11_lies 3 rfl) rfl rfl ?_
    refine gfC_0_11 (x_at tdX11_lies 4 rfl) wf_X11_123 ?_
    refine x_ic_ge 21 (x_at tdX11_lies 5 rfl) rfl (fun c => ?_) (fun c => ?_)
    · have H := H.1 c
      refine x_bipush (x_at tdX11_lies 11 rfl) k_b_m2 ?_
      exact x_ireturn (ty := .int) rfl rfl (x_at tdX11_lies 12 rfl) ⟨_, rfl, H⟩
    · have H := H.2 c
      refine x_aload_n (x_at tdX11_lies 6 rfl) rfl rfl ?_
      refine gfC_0_10 (x_at tdX11_lies 7 rfl) wf_X11_75 ?_
      refine x_iload_n (x_at tdX11_lies 8 rfl) rfl rfl ?_
      refine x_iald (lC_63 h) (x_at tdX11_lies 9 rfl) H.1 ?_
      have H := H.2
      refine x_goto 23 (x_at tdX11_lies 10 rfl) rfl ?_
      exact x_ireturn (ty := .int) rfl rfl (x_at tdX11_lies 12 rfl) ⟨_, rfl, H⟩
theorem e_Tg_tell {h : xH} {d : Nat} {x1 : Int32} {x2 : Int32} {x3 : Int32} {S : xSt} {K : Int32 → xSt → Prop}  (H : (((S.1 57 6) < 30 → (vp_in (S.1 57 6) 30 ∧ (vp_in (S.1 57 6) 30 ∧ (vp_in (S.1 57 6) 30 ∧ (vp_in (S.1 57 6) 30 ∧ (vp_in (S.1 57 6) 30 ∧ K (((S.1 57 6) + (1 : Int32)) - (1 : Int32)) (x_putI (x_putI (x_putI (x_putI (x_putI (x_putI S 58 ((S.1 57 6) : Int32).toNatClampNeg x1) 59 ((S.1 57 6) : Int32).toNatClampNeg x2) 60 ((S.1 57 6) : Int32).toNatClampNeg (vp_nar .boolean x3)) 61 ((S.1 57 6) : Int32).toNatClampNeg (S.1 57 7)) 62 ((S.1 57 6) : Int32).toNatClampNeg (-1)) 57 6 ((S.1 57 6) + (1 : Int32))))))))) ∧ (¬ (S.1 57 6) < 30 → K (-1) S))) : M_Tg_tell h d x1 x2 x3 S K := by
  refine x_enter pn_X9 (Nat.le_of_ble_eq_true rfl) ?_
  show X (gC h) _ _ 0 [(0, .ref (x_ad (gC h) 57)), (1, .int x1), (2, .int x2), (3, .int x3)] [] S _
  refine x_aload_n (x_at tdX9_tell 0 rfl) rfl rfl ?_
  refine gfC_57_6 (x_at tdX9_tell 1 rfl) wf_X9_32 ?_
  refine x_bipush (x_at tdX9_tell 2 rfl) k_b_30 ?_
  refine x_ic_lt 11 (x_at tdX9_tell 3 rfl) rfl (fun c => ?_) (fun c => ?_)
  · have H := H.1 c
    refine x_aload_n (x_at tdX9_tell 6 rfl) rfl rfl ?_
    refine gfC_57_1 (x_at tdX9_tell 7 rfl) wf_X9_9 ?_
    refine x_aload_n (x_at tdX9_tell 8 rfl) rfl rfl ?_
    refine gfC_57_6 (x_at tdX9_tell 9 rfl) wf_X9_32 ?_
    refine x_iload_n (x_at tdX9_tell 10 rfl) rfl rfl ?_
    refine x_iast (lC_58 h) (x_at tdX9_tell 11 rfl) H.1 ?_
    have H := H.2
    refine x_aload_n (x_at tdX9_tell 12 rfl) rfl rfl ?_
    refine gfC_57_2 (x_at tdX9_tell 13 rfl) wf_X9_15 ?_
    refine x_aload_n (x_at tdX9_tell 14 rfl) rfl rfl ?_
    refine gfC_57_6 (x_at tdX9_tell 15 rfl) wf_X9_32 ?_
    refine x_top (v := (S.1 57 6)) rfl ?_
    refine x_iload_n (x_at tdX9_tell 16 rfl) rfl rfl ?_
    refine x_iast (lC_59 h) (x_at tdX9_tell 17 rfl) H.1 ?_
    have H := H.2
    refine x_aload_n (x_at tdX9_tell 18 rfl) rfl rfl ?_
    refine gfC_57_3 (x_at tdX9_tell 19 rfl) wf_X9_18 ?_
    refine x_aload_n (x_at tdX9_tell 20 rfl) rfl rfl ?_
    refine gfC_57_6 (x_at tdX9_tell 21 rfl) wf_X9_32 ?_
    refine x_top (v := (S.1 57 6)) rfl ?_
    refine x_iload_n (x_at tdX9_tell 22 rfl) rfl rfl ?_
    refine x_zast (lC_60 h) (x_at tdX9_tell 23 rfl) H.1 ?_
    have H := H.2
    refine x_aload_n (x_at tdX9_tell 24 rfl) rfl rfl ?_
    refine gfC_57_4 (x_at tdX9_tell 25 rfl) wf_X9_22 ?_
    refine x_aload_n (x_at tdX9_tell 26 rfl) rfl rfl ?_
    refine gfC_57_6 (x_at tdX9_tell 27 rfl) wf_X9_32 ?_
    refine x_top (v := (S.1 57 6)) rfl ?_
    refine x_aload_n (x_at tdX9_tell 28 rfl) rfl rfl ?_
    refine gfC_57_7 (x_at tdX9_tell 29 rfl) wf_X9_36 ?_
    refine x_top (v := (S.1 57 7)) rfl ?_
    refine x_iast (lC_61 h) (x_at tdX9_tell 30 rfl) H.1 ?_
    have H := H.2
    refine x_aload_n (x_at tdX9_tell 31 rfl) rfl rfl ?_
    refine gfC_57_5 (x_at tdX9_tell 32 rfl) wf_X9_25 ?_
    refine x_aload_n (x_at tdX9_tell 33 rfl) rfl rfl ?_
    refine gfC_57_6 (x_at tdX9_tell 34 rfl) wf_X9_32 ?_
    refine x_top (v := (S.1 57 6)) rfl ?_
    refine x_iconst (x_at tdX9_tell 35 rfl) k_c_m1 ?_
    refine x_iast (lC_62 h) (x_at tdX9_tell 36 rfl) H.1 ?_
    have H := H.2
    refine x_aload_n (x_at tdX9_tell 37 rfl) rfl rfl ?_
    refine x_dup (x_at tdX9_tell 38 rfl) rfl ?_
    refine gfC_57_6 (x_at tdX9_tell 39 rfl) wf_X9_32 ?_
    refine x_top (v := (S.1 57 6)) rfl ?_
    refine x_iconst (x_at tdX9_tell 40 rfl) k_c_1 ?_
    refine x_iadd (x_at tdX9_tell 41 rfl) ?_
    refine pfC_57_6 (x_at tdX9_tell 42 rfl) wf_X9_32 ?_
    refine x_aload_n (x_at tdX9_tell 43 rfl) rfl rfl ?_
    refine gfC_57_6 (x_at tdX9_tell 44 rfl) wf_X9_32 ?_
    refine x_top (v := ((S.1 57 6) + (1 : Int32))) rfl ?_
    refine x_iconst (x_at tdX9_tell 45 rfl) k_c_1 ?_
    refine x_isub (x_at tdX9_tell 46 rfl) ?_
    exact x_ireturn (ty := .int) rfl rfl (x_at tdX9_tell 47 rfl) ⟨_, rfl, H⟩
  · have H := H.2 c
    refine x_iconst (x_at tdX9_tell 4 rfl) k_c_m1 ?_
    exact x_ireturn (ty := .int) rfl rfl (x_at tdX9_tell 5 rfl) ⟨_, rfl, H⟩
theorem e_O_tug {h : xH} {d : Nat} {x1 : Int32} {x2 : Int32} {x3 : Int32} {S : xSt} {K : Int32 → xSt → Prop}  (H : ((x1 < 0 → K (-1) S) ∧ (¬ x1 < 0 → ((2 < x1 → K (-1) S) ∧ (¬ 2 < x1 → ((x2 < 0 → K (-1) S) ∧ (¬ x2 < 0 → ((9 < x2 → K (-1) S) ∧ (¬ 9 < x2 → (((S.1 57 6) < 30 → M_Tg_tell h d x1 x2 x3 S (fun (r1 : Int32) (S1 : xSt) => K r1 S1)) ∧ (¬ (S.1 57 6) < 30 → K (-1) S))))))))))) : M_O_tug h d x1 x2 x3 S K := by
  refine x_enter pn_X11 (Nat.le_of_ble_eq_true rfl) ?_
  show X (gC h) _ _ 0 [(0, .ref (x_ad (gC h) 0)), (1, .int x1), (2, .int x2), (3, .int x3)] [] S _
  refine x_iload_n (x_at tdX11_tug 0 rfl) rfl rfl ?_
  refine x_if_lt 31 (x_at tdX11_tug 1 rfl) rfl (fun c => ?_) (fun c => ?_)
  · have H := H.1 c
    refine x_iconst (x_at tdX11_tug 15 rfl) k_c_m1 ?_
    exact x_ireturn (ty := .int) rfl rfl (x_at tdX11_tug 16 rfl) ⟨_, rfl, H⟩
  · have H := H.2 c
    refine x_iload_n (x_at tdX11_tug 2 rfl) rfl rfl ?_
    refine x_iconst (x_at tdX11_tug 3 rfl) k_c_2 ?_
    refine x_ic_gt 31 (x_at tdX11_tug 4 rfl) rfl (fun c => ?_) (fun c => ?_)
    · have H := H.1 c
      refine x_iconst (x_at tdX11_tug 15 rfl) k_c_m1 ?_
      exact x_ireturn (ty := .int) rfl rfl (x_at tdX11_tug 16 rfl) ⟨_, rfl, H⟩
    · have H := H.2 c
      refine x_iload_n (x_at tdX11_tug 5 rfl) rfl rfl ?_
      refine x_if_lt 31 (x_at tdX11_tug 6 rfl) rfl (fun c => ?_) (fun c => ?_)
      · have H := H.1 c
        refine x_iconst (x_at tdX11_tug 15 rfl) k_c_m1 ?_
        exact x_ireturn (ty := .int) rfl rfl (x_at tdX11_tug 16 rfl) ⟨_, rfl, H⟩
      · have H := H.2 c
        refine x_iload_n (x_at tdX11_tug 7 rfl) rfl rfl ?_
        refine x_bipush (x_at tdX11_tug 8 rfl) k_b_9 ?_
        refine x_ic_gt 31 (x_at tdX11_tug 9 rfl) rfl (fun c => ?_) (fun c => ?_)
        · have H := H.1 c
          refine x_iconst (x_at tdX11_tug 15 rfl) k_c_m1 ?_
          exact x_ireturn (ty := .int) rfl rfl (x_at tdX11_tug 16 rfl) ⟨_, rfl, H⟩
        · have H := H.2 c
          refine x_aload_n (x_at tdX11_tug 10 rfl) rfl rfl ?_
          refine gfC_0_9 (x_at tdX11_tug 11 rfl) wf_X11_71 ?_
          refine gfC_57_6 (x_at tdX11_tug 12 rfl) wf_X11_289 ?_
          refine x_bipush (x_at tdX11_tug 13 rfl) k_b_30 ?_
          refine x_ic_lt 33 (x_at tdX11_tug 14 rfl) rfl (fun c => ?_) (fun c => ?_)
          · have H := H.1 c
            refine x_aload_n (x_at tdX11_tug 17 rfl) rfl rfl ?_
            refine gfC_0_9 (x_at tdX11_tug 18 rfl) wf_X11_71 ?_
            refine x_iload_n (x_at tdX11_tug 19 rfl) rfl rfl ?_
            refine x_iload_n (x_at tdX11_tug 20 rfl) rfl rfl ?_
            refine x_iload_n (x_at tdX11_tug 21 rfl) rfl rfl ?_
            refine x_cVi (as := [.int x1, .int x2, .int x3]) (rest := []) mi_X9_tell vc_9 (lC_57 h) (x_at tdX11_tug 22 rfl) wm_X11_292 rfl (Nat.le_of_ble_eq_true rfl) rfl H (fun r1 S1 H => ?_)
            exact x_ireturn (ty := .int) rfl rfl (x_at tdX11_tug 23 rfl) ⟨_, rfl, H⟩
          · have H := H.2 c
            refine x_iconst (x_at tdX11_tug 15 rfl) k_c_m1 ?_
            exact x_ireturn (ty := .int) rfl rfl (x_at tdX11_tug 16 rfl) ⟨_, rfl, H⟩
theorem e_Tg_takeBack {h : xH} {d : Nat} {x1 : Int32} {S : xSt} {K : Int32 → xSt → Prop}  (H : ((x1 < 0 → K 0 S) ∧ (¬ x1 < 0 → (((S.1 57 6) ≤ x1 → K 0 S) ∧ (¬ (S.1 57 6) ≤ x1 → (vp_in x1 30 ∧ (((S.1 62 (x1 : Int32).toNatClampNeg) = (-1) → (vp_in x1 30 ∧ K 1 (x_putI S 62 (x1 : Int32).toNatClampNeg (S.1 57 7)))) ∧ (¬ (S.1 62 (x1 : Int32).toNatClampNeg) = (-1) → K 0 S)))))))) : M_Tg_takeBack h d x1 S K := by
  refine x_enter pn_X9 (Nat.le_of_ble_eq_true rfl) ?_
  show X (gC h) _ _ 0 [(0, .ref (x_ad (gC h) 57)), (1, .int x1)] [] S _
  refine x_iload_n (x_at tdX9_takeBack 0 rfl) rfl rfl ?_
  refine x_if_lt 22 (x_at tdX9_takeBack 1 rfl) rfl (fun c => ?_) (fun c => ?_)
  · have H := H.1 c
    refine x_iconst (x_at tdX9_takeBack 12 rfl) k_c_0 ?_
    exact x_ireturn (ty := .boolean) rfl zb0.1 (x_at tdX9_takeBack 13 rfl) ⟨_, rfl, H⟩
  · have H := H.2 c
    refine x_iload_n (x_at tdX9_takeBack 2 rfl) rfl rfl ?_
    refine x_aload_n (x_at tdX9_takeBack 3 rfl) rfl rfl ?_
    refine gfC_57_6 (x_at tdX9_takeBack 4 rfl) wf_X9_32 ?_
    refine x_ic_ge 22 (x_at tdX9_takeBack 5 rfl) rfl (fun c => ?_) (fun c => ?_)
    · have H := H.1 c
      refine x_iconst (x_at tdX9_takeBack 12 rfl) k_c_0 ?_
      exact x_ireturn (ty := .boolean) rfl zb0.1 (x_at tdX9_takeBack 13 rfl) ⟨_, rfl, H⟩
    · have H := H.2 c
      refine x_aload_n (x_at tdX9_takeBack 6 rfl) rfl rfl ?_
      refine gfC_57_5 (x_at tdX9_takeBack 7 rfl) wf_X9_25 ?_
      refine x_iload_n (x_at tdX9_takeBack 8 rfl) rfl rfl ?_
      refine x_iald (lC_62 h) (x_at tdX9_takeBack 9 rfl) H.1 ?_
      have H := H.2
      refine x_iconst (x_at tdX9_takeBack 10 rfl) k_c_m1 ?_
      refine x_ic_eq 24 (x_at tdX9_takeBack 11 rfl) rfl (fun c => ?_) (fun c => ?_)
      · have H := H.1 c
        refine x_aload_n (x_at tdX9_takeBack 14 rfl) rfl rfl ?_
        refine gfC_57_5 (x_at tdX9_takeBack 15 rfl) wf_X9_25 ?_
        refine x_iload_n (x_at tdX9_takeBack 16 rfl) rfl rfl ?_
        refine x_aload_n (x_at tdX9_takeBack 17 rfl) rfl rfl ?_
        refine gfC_57_7 (x_at tdX9_takeBack 18 rfl) wf_X9_36 ?_
        refine x_iast (lC_62 h) (x_at tdX9_takeBack 19 rfl) H.1 ?_
        have H := H.2
        refine x_iconst (x_at tdX9_takeBack 20 rfl) k_c_1 ?_
        exact x_ireturn (ty := .boolean) rfl zb1.1 (x_at tdX9_takeBack 21 rfl) ⟨_, rfl, H⟩
      · have H := H.2 c
        refine x_iconst (x_at tdX9_takeBack 12 rfl) k_c_0 ?_
        exact x_ireturn (ty := .boolean) rfl zb0.1 (x_at tdX9_takeBack 13 rfl) ⟨_, rfl, H⟩
theorem e_O_untell {h : xH} {d : Nat} {x1 : Int32} {S : xSt} {K : Int32 → xSt → Prop}  (H : M_Tg_takeBack h d x1 S (fun (r1 : Int32) (S1 : xSt) => (zb r1 ∧ K r1 S1))) : M_O_untell h d x1 S K := by
  refine x_enter pn_X11 (Nat.le_of_ble_eq_true rfl) ?_
  show X (gC h) _ _ 0 [(0, .ref (x_ad (gC h) 0)), (1, .int x1)] [] S _
  refine x_aload_n (x_at tdX11_untell 0 rfl) rfl rfl ?_
  refine gfC_0_9 (x_at tdX11_untell 1 rfl) wf_X11_71 ?_
  refine x_iload_n (x_at tdX11_untell 2 rfl) rfl rfl ?_
  refine x_cVi (as := [.int x1]) (rest := []) mi_X9_takeBack vc_9 (lC_57 h) (x_at tdX11_untell 3 rfl) wm_X11_296 rfl (Nat.le_of_ble_eq_true rfl) rfl H (fun r1 S1 H => ?_)
  exact x_ireturn (ty := .boolean) rfl H.1.1 (x_at tdX11_untell 4 rfl) ⟨_, rfl, H.2⟩
theorem e_O_later {h : xH} {d : Nat} {x1 : Int32} {S : xSt} {K : Int32 → xSt → Prop}  (H : ((x1 < 0 → K (-1) S) ∧ (¬ x1 < 0 → ((1000 < x1 → K (-1) S) ∧ (¬ 1000 < x1 → ((((S.1 57 7) + x1) ≤ 100000 → K ((S.1 57 7) + x1) (x_putI S 57 7 ((S.1 57 7) + x1))) ∧ (¬ ((S.1 57 7) + x1) ≤ 100000 → K (-1) S))))))) : M_O_later h d x1 S K := by
  refine x_enter pn_X11 (Nat.le_of_ble_eq_true rfl) ?_
  show X (gC h) _ _ 0 [(0, .ref (x_ad (gC h) 0)), (1, .int x1)] [] S _
  refine x_iload_n (x_at tdX11_later 0 rfl) rfl rfl ?_
  refine x_if_lt 26 (x_at tdX11_later 1 rfl) rfl (fun c => ?_) (fun c => ?_)
  · have H := H.1 c
    refine x_iconst (x_at tdX11_later 12 rfl) k_c_m1 ?_
    exact x_ireturn (ty := .int) rfl rfl (x_at tdX11_later 13 rfl) ⟨_, rfl, H⟩
  · have H := H.2 c
    refine x_iload_n (x_at tdX11_later 2 rfl) rfl rfl ?_
    refine x_sipush (x_at tdX11_later 3 rfl) k_s_1000 ?_
    refine x_ic_gt 26 (x_at tdX11_later 4 rfl) rfl (fun c => ?_) (fun c => ?_)
    · have H := H.1 c
      refine x_iconst (x_at tdX11_later 12 rfl) k_c_m1 ?_
      exact x_ireturn (ty := .int) rfl rfl (x_at tdX11_later 13 rfl) ⟨_, rfl, H⟩
    · have H := H.2 c
      refine x_aload_n (x_at tdX11_later 5 rfl) rfl rfl ?_
      refine gfC_0_9 (x_at tdX11_later 6 rfl) wf_X11_71 ?_
      refine gfC_57_7 (x_at tdX11_later 7 rfl) wf_X11_299 ?_
      refine x_iload_n (x_at tdX11_later 8 rfl) rfl rfl ?_
      refine x_iadd (x_at tdX11_later 9 rfl) ?_
      refine x_ldcw (x_at tdX11_later 10 rfl) wk_X11_302 ?_
      refine x_ic_le 28 (x_at tdX11_later 11 rfl) rfl (fun c => ?_) (fun c => ?_)
      · have H := H.1 c
        refine x_aload_n (x_at tdX11_later 14 rfl) rfl rfl ?_
        refine gfC_0_9 (x_at tdX11_later 15 rfl) wf_X11_71 ?_
        refine x_dup (x_at tdX11_later 16 rfl) rfl ?_
        refine gfC_57_7 (x_at tdX11_later 17 rfl) wf_X11_299 ?_
        refine x_iload_n (x_at tdX11_later 18 rfl) rfl rfl ?_
        refine x_iadd (x_at tdX11_later 19 rfl) ?_
        refine pfC_57_7 (x_at tdX11_later 20 rfl) wf_X11_299 ?_
        refine x_aload_n (x_at tdX11_later 21 rfl) rfl rfl ?_
        refine gfC_0_9 (x_at tdX11_later 22 rfl) wf_X11_71 ?_
        refine gfC_57_7 (x_at tdX11_later 23 rfl) wf_X11_299 ?_
        refine x_top (v := ((S.1 57 7) + x1)) rfl ?_
        exact x_ireturn (ty := .int) rfl rfl (x_at tdX11_later 24 rfl) ⟨_, rfl, H⟩
      · have H := H.2 c
        refine x_iconst (x_at tdX11_later 12 rfl) k_c_m1 ?_
        exact x_ireturn (ty := .int) rfl rfl (x_at tdX11_later 13 rfl) ⟨_, rfl, H⟩
theorem e_Rg_traitOf_2 {h : xH} {d : Nat} {x1 : Int32} {x2 : Int32} {S : xSt} {K : Int32 → xSt → Prop}  (H : ((¬ x2 = 0 → ((¬ x2 = 1 → (vp_in x1 6 ∧ K (S.1 5 (x1 : Int32).toNatClampNeg) S)) ∧ (x2 = 1 → (vp_in x1 6 ∧ K (S.1 4 (x1 : Int32).toNatClampNeg) S)))) ∧ (x2 = 0 → (vp_in x1 6 ∧ K (S.1 3 (x1 : Int32).toNatClampNeg) S)))) : M_Rg_traitOf_2 h d x1 x2 S K := by
  refine x_enter pn_X5 (Nat.le_of_ble_eq_true rfl) ?_
  show X (gC h) _ _ 0 [(0, .ref (x_ad (gC h) 2)), (1, .int x1), (2, .int x2)] [] S _
  refine x_iload_n (x_at tdX5_traitOf 0 rfl) rfl rfl ?_
  refine x_if_ne 11 (x_at tdX5_traitOf 1 rfl) rfl (fun c => ?_) (fun c => ?_)
  · have H := H.1 c
    refine x_iload_n (x_at tdX5_traitOf 7 rfl) rfl rfl ?_
    refine x_iconst (x_at tdX5_traitOf 8 rfl) k_c_1 ?_
    refine x_ic_ne 25 (x_at tdX5_traitOf 9 rfl) rfl (fun c => ?_) (fun c => ?_)
    · have H := H.1 c
      refine x_aload_n (x_at tdX5_traitOf 15 rfl) rfl rfl ?_
      refine gfC_2_3 (x_at tdX5_traitOf 16 rfl) wf_X5_18 ?_
      refine x_iload_n (x_at tdX5_traitOf 17 rfl) rfl rfl ?_
      refine x_iald (lC_5 h) (x_at tdX5_traitOf 18 rfl) H.1 ?_
      have H := H.2
      exact x_ireturn (ty := .int) rfl rfl (x_at tdX5_traitOf 19 rfl) ⟨_, rfl, H⟩
    · have H := H.2 c
      refine x_aload_n (x_at tdX5_traitOf 10 rfl) rfl rfl ?_
      refine gfC_2_2 (x_at tdX5_traitOf 11 rfl) wf_X5_15 ?_
      refine x_iload_n (x_at tdX5_traitOf 12 rfl) rfl rfl ?_
      refine x_iald (lC_4 h) (x_at tdX5_traitOf 13 rfl) H.1 ?_
      have H := H.2
      refine x_goto 31 (x_at tdX5_traitOf 14 rfl) rfl ?_
      exact x_ireturn (ty := .int) rfl rfl (x_at tdX5_traitOf 19 rfl) ⟨_, rfl, H⟩
  · have H := H.2 c
    refine x_aload_n (x_at tdX5_traitOf 2 rfl) rfl rfl ?_
    refine gfC_2_1 (x_at tdX5_traitOf 3 rfl) wf_X5_9 ?_
    refine x_iload_n (x_at tdX5_traitOf 4 rfl) rfl rfl ?_
    refine x_iald (lC_3 h) (x_at tdX5_traitOf 5 rfl) H.1 ?_
    have H := H.2
    exact x_ireturn (ty := .int) rfl rfl (x_at tdX5_traitOf 6 rfl) ⟨_, rfl, H⟩
theorem e_Tg_fits {h : xH} {d : Nat} {x1 : Int32} {x2 : Int32} {S : xSt} {K : Int32 → xSt → Prop}  (H : B_Tg_fits_2 h d x1 x2 0 S K) : M_Tg_fits h d x1 x2 S K := by
  refine x_enter pn_X9 (Nat.le_of_ble_eq_true rfl) ?_
  show X (gC h) _ _ 0 [(0, .ref (x_ad (gC h) 57)), (1, .int x1), (2, .int x2)] [] S _
  refine x_iconst (x_at tdX9_fits 0 rfl) k_c_0 ?_
  refine x_istore_n (x_at tdX9_fits 1 rfl) rfl (by decide) ?_
  refine x_weak (lv' := [(0, .ref (x_ad (gC h) 57)), (1, .int x1), (2, .int x2), (3, .int 0)]) ⟨rfl, rfl, rfl, rfl, trivial⟩ ?_
  exact H
theorem b_Tg_fits_2 {h : xH} {d : Nat}  {x1 : Int32} {x2 : Int32} {x3 : Int32} {S : xSt} {K : Int32 → xSt → Prop}  (H : (((S.1 57 6) ≤ x3 → K 1 S) ∧ (¬ (S.1 57 6) ≤ x3 → (vp_in x3 30 ∧ ((x2 < (S.1 61 (x3 : Int32).toNatClampNeg) → B_Tg_fits_44 h d x1 x2 x3 S K) ∧ (¬ x2 < (S.1 61 (x3 : Int32).toNatClampNeg) → (vp_in x3 30 ∧ (((S.1 62 (x3 : Int32).toNatClampNeg) = (-1) → B_Tg_fits_40 h d x1 x2 x3 S K) ∧ (¬ (S.1 62 (x3 : Int32).toNatClampNeg) = (-1) → (vp_in x3 30 ∧ (((S.1 62 (x3 : Int32).toNatClampNeg) ≤ x2 → B_Tg_fits_44 h d x1 x2 x3 S K) ∧ (¬ (S.1 62 (x3 : Int32).toNatClampNeg) ≤ x2 → B_Tg_fits_40 h d x1 x2 x3 S K)))))))))))) : B_Tg_fits_2 h d x1 x2 x3 S K := by
  unfold B_Tg_fits_2
  refine x_iload_n (x_at tdX9_fits 2 rfl) rfl rfl ?_
  refine x_aload_n (x_at tdX9_fits 3 rfl) rfl rfl ?_
  refine gfC_57_6 (x_at tdX9_fits 4 rfl) wf_X9_32 ?_
  refine x_ic_ge 97 (x_at tdX9_fits 5 rfl) rfl (fun c => ?_) (fun c => ?_)
  · have H := H.1 c
    refine x_iconst (x_at tdX9_fits 55 rfl) k_c_1 ?_
    exact x_ireturn (ty := .boolean) rfl zb1.1 (x_at tdX9_fits 56 rfl) ⟨_, rfl, H⟩
  · have H := H.2 c
    refine x_aload_n (x_at tdX9_fits 6 rfl) rfl rfl ?_
    refine gfC_57_4 (x_at tdX9_fits 7 rfl) wf_X9_22 ?_
    refine x_iload_n (x_at tdX9_fits 8 rfl) rfl rfl ?_
    refine x_iald (lC_61 h) (x_at tdX9_fits 9 rfl) H.1 ?_
    have H := H.2
    refine x_iload_n (x_at tdX9_fits 10 rfl) rfl rfl ?_
    refine x_ic_gt 44 (x_at tdX9_fits 11 rfl) rfl (fun c => ?_) (fun c => ?_)
    · have H := H.1 c
      refine x_weak (lv' := [(0, .ref (x_ad (gC h) 57)), (1, .int x1), (2, .int x2), (3, .int x3)]) ⟨rfl, rfl, rfl, rfl, trivial⟩ ?_
      exact H
    · have H := H.2 c
      refine x_aload_n (x_at tdX9_fits 12 rfl) rfl rfl ?_
      refine gfC_57_5 (x_at tdX9_fits 13 rfl) wf_X9_25 ?_
      refine x_iload_n (x_at tdX9_fits 14 rfl) rfl rfl ?_
      refine x_iald (lC_62 h) (x_at tdX9_fits 15 rfl) H.1 ?_
      have H := H.2
      refine x_iconst (x_at tdX9_fits 16 rfl) k_c_m1 ?_
      refine x_ic_eq 40 (x_at tdX9_fits 17 rfl) rfl (fun c => ?_) (fun c => ?_)
      · have H := H.1 c
        refine x_weak (lv' := [(0, .ref (x_ad (gC h) 57)), (1, .int x1), (2, .int x2), (3, .int x3)]) ⟨rfl, rfl, rfl, rfl, trivial⟩ ?_
        exact H
      · have H := H.2 c
        refine x_aload_n (x_at tdX9_fits 18 rfl) rfl rfl ?_
        refine gfC_57_5 (x_at tdX9_fits 19 rfl) wf_X9_25 ?_
        refine x_iload_n (x_at tdX9_fits 20 rfl) rfl rfl ?_
        refine x_iald (lC_62 h) (x_at tdX9_fits 21 rfl) H.1 ?_
        have H := H.2
        refine x_iload_n (x_at tdX9_fits 22 rfl) rfl rfl ?_
        refine x_ic_le 44 (x_at tdX9_fits 23 rfl) rfl (fun c => ?_) (fun c => ?_)
        · have H := H.1 c
          refine x_weak (lv' := [(0, .ref (x_ad (gC h) 57)), (1, .int x1), (2, .int x2), (3, .int x3)]) ⟨rfl, rfl, rfl, rfl, trivial⟩ ?_
          exact H
        · have H := H.2 c
          refine x_weak (lv' := [(0, .ref (x_ad (gC h) 57)), (1, .int x1), (2, .int x2), (3, .int x3)]) ⟨rfl, rfl, rfl, rfl, trivial⟩ ?_
          exact H
theorem b_Tg_fits_40 {h : xH} {d : Nat}  {x1 : Int32} {x2 : Int32} {x3 : Int32} {S : xSt} {K : Int32 → xSt → Prop}  (H : B_Tg_fits_45 h d x1 x2 x3 1 S K) : B_Tg_fits_40 h d x1 x2 x3 S K := by
  unfold B_Tg_fits_40
  refine x_iconst (x_at tdX9_fits 24 rfl) k_c_1 ?_
  refine x_goto 45 (x_at tdX9_fits 25 rfl) rfl ?_
  refine x_weak (lv' := [(0, .ref (x_ad (gC h) 57)), (1, .int x1), (2, .int x2), (3, .int x3)]) ⟨rfl, rfl, rfl, rfl, trivial⟩ ?_
  exact H
theorem b_Tg_fits_44 {h : xH} {d : Nat}  {x1 : Int32} {x2 : Int32} {x3 : Int32} {S : xSt} {K : Int32 → xSt → Prop}  (H : B_Tg_fits_45 h d x1 x2 x3 0 S K) : B_Tg_fits_44 h d x1 x2 x3 S K := by
  unfold B_Tg_fits_44
  refine x_iconst (x_at tdX9_fits 26 rfl) k_c_0 ?_
  refine x_weak (lv' := [(0, .ref (x_ad (gC h) 57)), (1, .int x1), (2, .int x2), (3, .int x3)]) ⟨rfl, rfl, rfl, rfl, trivial⟩ ?_
  exact H
theorem b_Tg_fits_45 {h : xH} {d : Nat}  {x1 : Int32} {x2 : Int32} {x3 : Int32} {s0 : Int32} {S : xSt} {K : Int32 → xSt → Prop}  (H : ((s0 = 0 → B_Tg_fits_91 h d x1 x2 x3 S K) ∧ (¬ s0 = 0 → (vp_in x3 30 ∧ M_Rg_traitOf_2 h d x1 (S.1 58 (x3 : Int32).toNatClampNeg) S (fun (r1 : Int32) (S1 : xSt) => (vp_in x3 30 ∧ ((¬ r1 = (S1.1 59 (x3 : Int32).toNatClampNeg) → B_Tg_fits_80 h d x1 x2 x3 0 S1 K) ∧ (r1 = (S1.1 59 (x3 : Int32).toNatClampNeg) → B_Tg_fits_80 h d x1 x2 x3 1 S1 K)))))))) : B_Tg_fits_45 h d x1 x2 x3 s0 S K := by
  unfold B_Tg_fits_45
  refine x_istore (x_at tdX9_fits 27 rfl) (by decide) ?_
  refine x_iload (x_at tdX9_fits 28 rfl) rfl ?_
  refine x_if_eq 91 (x_at tdX9_fits 29 rfl) rfl (fun c => ?_) (fun c => ?_)
  · have H := H.1 c
    refine x_weak (lv' := [(0, .ref (x_ad (gC h) 57)), (1, .int x1), (2, .int x2), (3, .int x3)]) ⟨rfl, rfl, rfl, rfl, trivial⟩ ?_
    exact H
  · have H := H.2 c
    refine x_aload_n (x_at tdX9_fits 30 rfl) rfl rfl ?_
    refine gfC_57_0 (x_at tdX9_fits 31 rfl) wf_X9_28 ?_
    refine x_iload_n (x_at tdX9_fits 32 rfl) rfl rfl ?_
    refine x_aload_n (x_at tdX9_fits 33 rfl) rfl rfl ?_
    refine gfC_57_1 (x_at tdX9_fits 34 rfl) wf_X9_9 ?_
    refine x_iload_n (x_at tdX9_fits 35 rfl) rfl rfl ?_
    refine x_iald (lC_58 h) (x_at tdX9_fits 36 rfl) H.1 ?_
    have H := H.2
    refine x_cVi (as := [.int x1, .int (S.1 58 (x3 : Int32).toNatClampNeg)]) (rest := []) mi_X5_traitOf vc_5 (lC_2 h) (x_at tdX9_fits 37 rfl) wm_X9_48 rfl (Nat.le_of_ble_eq_true rfl) rfl H (fun r1 S1 H => ?_)
    refine x_aload_n (x_at tdX9_fits 38 rfl) rfl rfl ?_
    refine gfC_57_2 (x_at tdX9_fits 39 rfl) wf_X9_15 ?_
    refine x_iload_n (x_at tdX9_fits 40 rfl) rfl rfl ?_
    refine x_iald (lC_59 h) (x_at tdX9_fits 41 rfl) H.1 ?_
    have H := H.2
    refine x_ic_ne 79 (x_at tdX9_fits 42 rfl) rfl (fun c => ?_) (fun c => ?_)
    · have H := H.1 c
      refine x_iconst (x_at tdX9_fits 45 rfl) k_c_0 ?_
      refine x_weak (lv' := [(0, .ref (x_ad (gC h) 57)), (1, .int x1), (2, .int x2), (3, .int x3)]) ⟨rfl, rfl, rfl, rfl, trivial⟩ ?_
      exact H
    · have H := H.2 c
      refine x_iconst (x_at tdX9_fits 43 rfl) k_c_1 ?_
      refine x_goto 80 (x_at tdX9_fits 44 rfl) rfl ?_
      refine x_weak (lv' := [(0, .ref (x_ad (gC h) 57)), (1, .int x1), (2, .int x2), (3, .int x3)]) ⟨rfl, rfl, rfl, rfl, trivial⟩ ?_
      exact H
theorem b_Tg_fits_80 {h : xH} {d : Nat}  {x1 : Int32} {x2 : Int32} {x3 : Int32} {s0 : Int32} {S : xSt} {K : Int32 → xSt → Prop}  (H : (vp_in x3 30 ∧ ((s0 = (S.1 60 (x3 : Int32).toNatClampNeg) → B_Tg_fits_91 h d x1 x2 x3 S K) ∧ (¬ s0 = (S.1 60 (x3 : Int32).toNatClampNeg) → K 0 S)))) : B_Tg_fits_80 h d x1 x2 x3 s0 S K := by
  unfold B_Tg_fits_80
  refine x_aload_n (x_at tdX9_fits 46 rfl) rfl rfl ?_
  refine gfC_57_3 (x_at tdX9_fits 47 rfl) wf_X9_18 ?_
  refine x_iload_n (x_at tdX9_fits 48 rfl) rfl rfl ?_
  refine x_zald (lC_60 h) (x_at tdX9_fits 49 rfl) H.1 ?_
  have H := H.2
  refine x_ic_eq 91 (x_at tdX9_fits 50 rfl) rfl (fun c => ?_) (fun c => ?_)
  · have H := H.1 c
    refine x_weak (lv' := [(0, .ref (x_ad (gC h) 57)), (1, .int x1), (2, .int x2), (3, .int x3)]) ⟨rfl, rfl, rfl, rfl, trivial⟩ ?_
    exact H
  · have H := H.2 c
    refine x_iconst (x_at tdX9_fits 51 rfl) k_c_0 ?_
    exact x_ireturn (ty := .boolean) rfl zb0.1 (x_at tdX9_fits 52 rfl) ⟨_, rfl, H⟩
theorem b_Tg_fits_91 {h : xH} {d : Nat}  {x1 : Int32} {x2 : Int32} {x3 : Int32} {S : xSt} {K : Int32 → xSt → Prop}  (H : B_Tg_fits_2 h d x1 x2 (x3 + 1) S K) : B_Tg_fits_91 h d x1 x2 x3 S K := by
  unfold B_Tg_fits_91
  refine x_iinc (x_at tdX9_fits 53 rfl) rfl (k_inc_1 _) (by decide) ?_
  refine x_goto 2 (x_at tdX9_fits 54 rfl) rfl ?_
  refine x_weak (lv' := [(0, .ref (x_ad (gC h) 57)), (1, .int x1), (2, .int x2), (3, .int (x3 + 1))]) ⟨rfl, rfl, rfl, rfl, trivial⟩ ?_
  exact H
theorem e_Tg_suspects {h : xH} {d : Nat} {x1 : Int32} {S : xSt} {K : Int32 → xSt → Prop}  (H : B_Tg_suspects_4 h d x1 0 0 S K) : M_Tg_suspects h d x1 S K := by
  refine x_enter pn_X9 (Nat.le_of_ble_eq_true rfl) ?_
  show X (gC h) _ _ 0 [(0, .ref (x_ad (gC h) 57)), (1, .int x1)] [] S _
  refine x_iconst (x_at tdX9_suspects 0 rfl) k_c_0 ?_
  refine x_istore_n (x_at tdX9_suspects 1 rfl) rfl (by decide) ?_
  refine x_iconst (x_at tdX9_suspects 2 rfl) k_c_0 ?_
  refine x_istore_n (x_at tdX9_suspects 3 rfl) rfl (by decide) ?_
  refine x_weak (lv' := [(0, .ref (x_ad (gC h) 57)), (1, .int x1), (2, .int 0), (3, .int 0)]) ⟨rfl, rfl, rfl, rfl, trivial⟩ ?_
  exact H
theorem b_Tg_suspects_4 {h : xH} {d : Nat}  {x1 : Int32} {x2 : Int32} {x3 : Int32} {S : xSt} {K : Int32 → xSt → Prop}  (H : (((S.1 2 0) ≤ x3 → K x2 S) ∧ (¬ (S.1 2 0) ≤ x3 → M_Tg_fits h d x3 x1 S (fun (r1 : Int32) (S1 : xSt) => ((r1 = 0 → B_Tg_suspects_30 h d x1 x2 x3 S1 K) ∧ (¬ r1 = 0 → B_Tg_suspects_30 h d x1 (x2 ||| ((1 : Int32) <<< (x3 &&& 31))) x3 S1 K)))))) : B_Tg_suspects_4 h d x1 x2 x3 S K := by
  unfold B_Tg_suspects_4
  refine x_iload_n (x_at tdX9_suspects 4 rfl) rfl rfl ?_
  refine x_aload_n (x_at tdX9_suspects 5 rfl) rfl rfl ?_
  refine gfC_57_0 (x_at tdX9_suspects 6 rfl) wf_X9_28 ?_
  refine gfC_2_0 (x_at tdX9_suspects 7 rfl) wf_X9_39 ?_
  refine x_ic_ge 36 (x_at tdX9_suspects 8 rfl) rfl (fun c => ?_) (fun c => ?_)
  · have H := H.1 c
    refine x_iload_n (x_at tdX9_suspects 22 rfl) rfl rfl ?_
    exact x_ireturn (ty := .int) rfl rfl (x_at tdX9_suspects 23 rfl) ⟨_, rfl, H⟩
  · have H := H.2 c
    refine x_aload_n (x_at tdX9_suspects 9 rfl) rfl rfl ?_
    refine x_iload_n (x_at tdX9_suspects 10 rfl) rfl rfl ?_
    refine x_iload_n (x_at tdX9_suspects 11 rfl) rfl rfl ?_
    refine x_cVi (as := [.int x3, .int x1]) (rest := []) mi_X9_fits vc_9 (lC_57 h) (x_at tdX9_suspects 12 rfl) wm_X9_44 rfl (Nat.le_of_ble_eq_true rfl) rfl H (fun r1 S1 H => ?_)
    refine x_if_eq 30 (x_at tdX9_suspects 13 rfl) rfl (fun c => ?_) (fun c => ?_)
    · have H := H.1 c
      refine x_weak (lv' := [(0, .ref (x_ad (gC h) 57)), (1, .int x1), (2, .int x2), (3, .int x3)]) ⟨rfl, rfl, rfl, rfl, trivial⟩ ?_
      exact H
    · have H := H.2 c
      refine x_iload_n (x_at tdX9_suspects 14 rfl) rfl rfl ?_
      refine x_iconst (x_at tdX9_suspects 15 rfl) k_c_1 ?_
      refine x_iload_n (x_at tdX9_suspects 16 rfl) rfl rfl ?_
      refine x_ishl (x_at tdX9_suspects 17 rfl) ?_
      refine x_ior (x_at tdX9_suspects 18 rfl) ?_
      refine x_istore_n (x_at tdX9_suspects 19 rfl) rfl (by decide) ?_
      refine x_weak (lv' := [(0, .ref (x_ad (gC h) 57)), (1, .int x1), (2, .int (x2 ||| ((1 : Int32) <<< (x3 &&& 31)))), (3, .int x3)]) ⟨rfl, rfl, rfl, rfl, trivial⟩ ?_
      exact H
theorem b_Tg_suspects_30 {h : xH} {d : Nat}  {x1 : Int32} {x2 : Int32} {x3 : Int32} {S : xSt} {K : Int32 → xSt → Prop}  (H : B_Tg_suspects_4 h d x1 x2 (x3 + 1) S K) : B_Tg_suspects_30 h d x1 x2 x3 S K := by
  unfold B_Tg_suspects_30
  refine x_iinc (x_at tdX9_suspects 20 rfl) rfl (k_inc_1 _) (by decide) ?_
  refine x_goto 4 (x_at tdX9_suspects 21 rfl) rfl ?_
  refine x_weak (lv' := [(0, .ref (x_ad (gC h) 57)), (1, .int x1), (2, .int x2), (3, .int (x3 + 1))]) ⟨rfl, rfl, rfl, rfl, trivial⟩ ?_
  exact H
theorem e_O_swore {h : xH} {d : Nat} {x1 : Int32} {S : xSt} {K : Int32 → xSt → Prop}  (H : M_Tg_suspects h d x1 S (fun (r1 : Int32) (S1 : xSt) => K r1 S1)) : M_O_swore h d x1 S K := by
  refine x_enter pn_X11 (Nat.le_of_ble_eq_true rfl) ?_
  show X (gC h) _ _ 0 [(0, .ref (x_ad (gC h) 0)), (1, .int x1)] [] S _
  refine x_aload_n (x_at tdX11_swore 0 rfl) rfl rfl ?_
  refine gfC_0_9 (x_at tdX11_swore 1 rfl) wf_X11_71 ?_
  refine x_iload_n (x_at tdX11_swore 2 rfl) rfl rfl ?_
  refine x_cVi (as := [.int x1]) (rest := []) mi_X9_suspects vc_9 (lC_57 h) (x_at tdX11_swore 3 rfl) wm_X11_303 rfl (Nat.le_of_ble_eq_true rfl) rfl H (fun r1 S1 H => ?_)
  exact x_ireturn (ty := .int) rfl rfl (x_at tdX11_swore 4 rfl) ⟨_, rfl, H⟩
theorem e_Tg_leftAtMost {h : xH} {d : Nat} {x1 : Int32} {x2 : Int32} {S : xSt} {K : Int32 → xSt → Prop}  (H : B_Tg_leftAtMost_5 h d x1 x2 0 0 S K) : M_Tg_leftAtMost h d x1 x2 S K := by
  refine x_enter pn_X9 (Nat.le_of_ble_eq_true rfl) ?_
  show X (gC h) _ _ 0 [(0, .ref (x_ad (gC h) 57)), (1, .int x1), (2, .int x2)] [] S _
  refine x_iconst (x_at tdX9_leftAtMost 0 rfl) k_c_0 ?_
  refine x_istore_n (x_at tdX9_leftAtMost 1 rfl) rfl (by decide) ?_
  refine x_iconst (x_at tdX9_leftAtMost 2 rfl) k_c_0 ?_
  refine x_istore (x_at tdX9_leftAtMost 3 rfl) (by decide) ?_
  refine x_weak (lv' := [(0, .ref (x_ad (gC h) 57)), (1, .int x1), (2, .int x2), (3, .int 0), (4, .int 0)]) ⟨rfl, rfl, rfl, rfl, rfl, trivial⟩ ?_
  exact H
theorem b_Tg_leftAtMost_5 {h : xH} {d : Nat}  {x1 : Int32} {x2 : Int32} {x3 : Int32} {x4 : Int32} {S : xSt} {K : Int32 → xSt → Prop}  (H : (((S.1 2 0) ≤ x4 → K x3 S) ∧ (¬ (S.1 2 0) ≤ x4 → B_Tg_leftAtMost_23 h d x1 x2 x3 x4 0 0 S K))) : B_Tg_leftAtMost_5 h d x1 x2 x3 x4 S K := by
  unfold B_Tg_leftAtMost_5
  refine x_iload (x_at tdX9_leftAtMost 4 rfl) rfl ?_
  refine x_aload_n (x_at tdX9_leftAtMost 5 rfl) rfl rfl ?_
  refine gfC_57_0 (x_at tdX9_leftAtMost 6 rfl) wf_X9_28 ?_
  refine gfC_2_0 (x_at tdX9_leftAtMost 7 rfl) wf_X9_39 ?_
  refine x_ic_ge 110 (x_at tdX9_leftAtMost 8 rfl) rfl (fun c => ?_) (fun c => ?_)
  · have H := H.1 c
    refine x_iload_n (x_at tdX9_leftAtMost 56 rfl) rfl rfl ?_
    exact x_ireturn (ty := .int) rfl rfl (x_at tdX9_leftAtMost 57 rfl) ⟨_, rfl, H⟩
  · have H := H.2 c
    refine x_iconst (x_at tdX9_leftAtMost 9 rfl) k_c_0 ?_
    refine x_istore (x_at tdX9_leftAtMost 10 rfl) (by decide) ?_
    refine x_iconst (x_at tdX9_leftAtMost 11 rfl) k_c_0 ?_
    refine x_istore (x_at tdX9_leftAtMost 12 rfl) (by decide) ?_
    refine x_weak (lv' := [(0, .ref (x_ad (gC h) 57)), (1, .int x1), (2, .int x2), (3, .int x3), (4, .int x4), (5, .int 0), (6, .int 0)]) ⟨rfl, rfl, rfl, rfl, rfl, rfl, rfl, trivial⟩ ?_
    exact H
theorem b_Tg_leftAtMost_23 {h : xH} {d : Nat}  {x1 : Int32} {x2 : Int32} {x3 : Int32} {x4 : Int32} {x5 : Int32} {x6 : Int32} {S : xSt} {K : Int32 → xSt → Prop}  (H : (((S.1 2 0) ≤ x6 → B_Tg_leftAtMost_5 h d x1 x2 (if x3 < x5 then x5 else x3) (x4 + 1) S K) ∧ (¬ (S.1 2 0) ≤ x6 → (((x1 &&& ((1 : Int32) <<< (x4 &&& 31))) = 0 → B_Tg_leftAtMost_57 h d x1 x2 x3 x4 x5 x6 S K) ∧ (¬ (x1 &&& ((1 : Int32) <<< (x4 &&& 31))) = 0 → (((x1 &&& ((1 : Int32) <<< (x6 &&& 31))) = 0 → B_Tg_leftAtMost_57 h d x1 x2 x3 x4 x5 x6 S K) ∧ (¬ (x1 &&& ((1 : Int32) <<< (x6 &&& 31))) = 0 → B_Tg_leftAtMost_58 h d x1 x2 x3 x4 x5 x6 1 S K))))))) : B_Tg_leftAtMost_23 h d x1 x2 x3 x4 x5 x6 S K := by
  unfold B_Tg_leftAtMost_23
  refine x_iload (x_at tdX9_leftAtMost 13 rfl) rfl ?_
  refine x_aload_n (x_at tdX9_leftAtMost 14 rfl) rfl rfl ?_
  refine gfC_57_0 (x_at tdX9_leftAtMost 15 rfl) wf_X9_28 ?_
  refine gfC_2_0 (x_at tdX9_leftAtMost 16 rfl) wf_X9_39 ?_
  refine x_ic_ge 97 (x_at tdX9_leftAtMost 17 rfl) rfl (fun c => ?_) (fun c => ?_)
  · have H := H.1 c
    refine x_iload_n (x_at tdX9_leftAtMost 50 rfl) rfl rfl ?_
    refine x_iload (x_at tdX9_leftAtMost 51 rfl) rfl ?_
    refine x_mmax wm_X9_52 ws_max wi_J9 wc_max (x_at tdX9_leftAtMost 52 rfl) (Nat.le_of_ble_eq_true rfl) ?_
    refine x_istore_n (x_at tdX9_leftAtMost 53 rfl) rfl (by decide) ?_
    refine x_iinc (x_at tdX9_leftAtMost 54 rfl) rfl (k_inc_1 _) (by decide) ?_
    refine x_goto 5 (x_at tdX9_leftAtMost 55 rfl) rfl ?_
    refine x_weak (lv' := [(0, .ref (x_ad (gC h) 57)), (1, .int x1), (2, .int x2), (3, .int (if x3 < x5 then x5 else x3)), (4, .int (x4 + 1))]) ⟨rfl, rfl, rfl, rfl, rfl, trivial⟩ ?_
    exact H
  · have H := H.2 c
    refine x_iload_n (x_at tdX9_leftAtMost 18 rfl) rfl rfl ?_
    refine x_iconst (x_at tdX9_leftAtMost 19 rfl) k_c_1 ?_
    refine x_iload (x_at tdX9_leftAtMost 20 rfl) rfl ?_
    refine x_ishl (x_at tdX9_leftAtMost 21 rfl) ?_
    refine x_iand (x_at tdX9_leftAtMost 22 rfl) ?_
    refine x_if_eq 57 (x_at tdX9_leftAtMost 23 rfl) rfl (fun c => ?_) (fun c => ?_)
    · have H := H.1 c
      refine x_weak (lv' := [(0, .ref (x_ad (gC h) 57)), (1, .int x1), (2, .int x2), (3, .int x3), (4, .int x4), (5, .int x5), (6, .int x6)]) ⟨rfl, rfl, rfl, rfl, rfl, rfl, rfl, trivial⟩ ?_
      exact H
    · have H := H.2 c
      refine x_iload_n (x_at tdX9_leftAtMost 24 rfl) rfl rfl ?_
      refine x_iconst (x_at tdX9_leftAtMost 25 rfl) k_c_1 ?_
      refine x_iload (x_at tdX9_leftAtMost 26 rfl) rfl ?_
      refine x_ishl (x_at tdX9_leftAtMost 27 rfl) ?_
      refine x_iand (x_at tdX9_leftAtMost 28 rfl) ?_
      refine x_if_eq 57 (x_at tdX9_leftAtMost 29 rfl) rfl (fun c => ?_) (fun c => ?_)
      · have H := H.1 c
        refine x_weak (lv' := [(0, .ref (x_ad (gC h) 57)), (1, .int x1), (2, .int x2), (3, .int x3), (4, .int x4), (5, .int x5), (6, .int x6)]) ⟨rfl, rfl, rfl, rfl, rfl, rfl, rfl, trivial⟩ ?_
        exact H
      · have H := H.2 c
        refine x_iconst (x_at tdX9_leftAtMost 30 rfl) k_c_1 ?_
        refine x_goto 58 (x_at tdX9_leftAtMost 31 rfl) rfl ?_
        refine x_weak (lv' := [(0, .ref (x_ad (gC h) 57)), (1, .int x1), (2, .int x2), (3, .int x3), (4, .int x4), (5, .int x5), (6, .int x6)]) ⟨rfl, rfl, rfl, rfl, rfl, rfl, rfl, trivial⟩ ?_
        exact H
theorem b_Tg_leftAtMost_57 {h : xH} {d : Nat}  {x1 : Int32} {x2 : Int32} {x3 : Int32} {x4 : Int32} {x5 : Int32} {x6 : Int32} {S : xSt} {K : Int32 → xSt → Prop}  (H : B_Tg_leftAtMost_58 h d x1 x2 x3 x4 x5 x6 0 S K) : B_Tg_leftAtMost_57 h d x1 x2 x3 x4 x5 x6 S K := by
  unfold B_Tg_leftAtMost_57
  refine x_iconst (x_at tdX9_leftAtMost 32 rfl) k_c_0 ?_
  refine x_weak (lv' := [(0, .ref (x_ad (gC h) 57)), (1, .int x1), (2, .int x2), (3, .int x3), (4, .int x4), (5, .int x5), (6, .int x6)]) ⟨rfl, rfl, rfl, rfl, rfl, rfl, rfl, trivial⟩ ?_
  exact H
theorem b_Tg_leftAtMost_58 {h : xH} {d : Nat}  {x1 : Int32} {x2 : Int32} {x3 : Int32} {x4 : Int32} {x5 : Int32} {x6 : Int32} {s0 : Int32} {S : xSt} {K : Int32 → xSt → Prop}  (H : ((s0 = 0 → B_Tg_leftAtMost_91 h d x1 x2 x3 x4 x5 x6 S K) ∧ (¬ s0 = 0 → M_Rg_traitOf_2 h d x4 x2 S (fun (r1 : Int32) (S1 : xSt) => M_Rg_traitOf_2 h d x6 x2 S1 (fun (r2 : Int32) (S2 : xSt) => ((¬ r1 = r2 → B_Tg_leftAtMost_91 h d x1 x2 x3 x4 x5 x6 S2 K) ∧ (r1 = r2 → B_Tg_leftAtMost_91 h d x1 x2 x3 x4 (x5 + 1) x6 S2 K))))))) : B_Tg_leftAtMost_58 h d x1 x2 x3 x4 x5 x6 s0 S K := by
  unfold B_Tg_leftAtMost_58
  refine x_istore (x_at tdX9_leftAtMost 33 rfl) (by decide) ?_
  refine x_iload (x_at tdX9_leftAtMost 34 rfl) rfl ?_
  refine x_if_eq 91 (x_at tdX9_leftAtMost 35 rfl) rfl (fun c => ?_) (fun c => ?_)
  · have H := H.1 c
    refine x_weak (lv' := [(0, .ref (x_ad (gC h) 57)), (1, .int x1), (2, .int x2), (3, .int x3), (4, .int x4), (5, .int x5), (6, .int x6)]) ⟨rfl, rfl, rfl, rfl, rfl, rfl, rfl, trivial⟩ ?_
    exact H
  · have H := H.2 c
    refine x_aload_n (x_at tdX9_leftAtMost 36 rfl) rfl rfl ?_
    refine gfC_57_0 (x_at tdX9_leftAtMost 37 rfl) wf_X9_28 ?_
    refine x_iload (x_at tdX9_leftAtMost 38 rfl) rfl ?_
    refine x_iload_n (x_at tdX9_leftAtMost 39 rfl) rfl rfl ?_
    refine x_cVi (as := [.int x4, .int x2]) (rest := []) mi_X5_traitOf vc_5 (lC_2 h) (x_at tdX9_leftAtMost 40 rfl) wm_X9_48 rfl (Nat.le_of_ble_eq_true rfl) rfl H (fun r1 S1 H => ?_)
    refine x_aload_n (x_at tdX9_leftAtMost 41 rfl) rfl rfl ?_
    refine gfC_57_0 (x_at tdX9_leftAtMost 42 rfl) wf_X9_28 ?_
    refine x_iload (x_at tdX9_leftAtMost 43 rfl) rfl ?_
    refine x_iload_n (x_at tdX9_leftAtMost 44 rfl) rfl rfl ?_
    refine x_cVi (as := [.int x6, .int x2]) (rest := [.int r1]) mi_X5_traitOf vc_5 (lC_2 h) (x_at tdX9_leftAtMost 45 rfl) wm_X9_48 rfl (Nat.le_of_ble_eq_true rfl) rfl H (fun r2 S2 H => ?_)
    refine x_ic_ne 91 (x_at tdX9_leftAtMost 46 rfl) rfl (fun c => ?_) (fun c => ?_)
    · have H := H.1 c
      refine x_weak (lv' := [(0, .ref (x_ad (gC h) 57)), (1, .int x1), (2, .int x2), (3, .int x3), (4, .int x4), (5, .int x5), (6, .int x6)]) ⟨rfl, rfl, rfl, rfl, rfl, rfl, rfl, trivial⟩ ?_
      exact H
    · have H := H.2 c
      refine x_iinc (x_at tdX9_leftAtMost 47 rfl) rfl (k_inc_1 _) (by decide) ?_
      refine x_weak (lv' := [(0, .ref (x_ad (gC h) 57)), (1, .int x1), (2, .int x2), (3, .int x3), (4, .int x4), (5, .int (x5 + 1)), (6, .int x6)]) ⟨rfl, rfl, rfl, rfl, rfl, rfl, rfl, trivial⟩ ?_
      exact H
theorem b_Tg_leftAtMost_91 {h : xH} {d : Nat}  {x1 : Int32} {x2 : Int32} {x3 : Int32} {x4 : Int32} {x5 : Int32} {x6 : Int32} {S : xSt} {K : Int32 → xSt → Prop}  (H : B_Tg_leftAtMost_23 h d x1 x2 x3 x4 x5 (x6 + 1) S K) : B_Tg_leftAtMost_91 h d x1 x2 x3 x4 x5 x6 S K := by
  unfold B_Tg_leftAtMost_91
  refine x_iinc (x_at tdX9_leftAtMost 48 rfl) rfl (k_inc_1 _) (by decide) ?_
  refine x_goto 23 (x_at tdX9_leftAtMost 49 rfl) rfl ?_
  refine x_weak (lv' := [(0, .ref (x_ad (gC h) 57)), (1, .int x1), (2, .int x2), (3, .int x3), (4, .int x4), (5, .int x5), (6, .int (x6 + 1))]) ⟨rfl, rfl, rfl, rfl, rfl, rfl, rfl, trivial⟩ ?_
  exact H
theorem e_O_ask {h : xH} {d : Nat} {x1 : Int32} {x2 : Int32} {S : xSt} {K : Int32 → xSt → Prop}  (H : M_Tg_suspects h d x2 S (fun (r1 : Int32) (S1 : xSt) => ((r1 = 0 → K (-1) S1) ∧ (¬ r1 = 0 → ((x1 < 0 → K (-1) S1) ∧ (¬ x1 < 0 → ((x1 ≤ 1 → B_O_ask_30 h d x1 r1 0 1 S1 K) ∧ (¬ x1 ≤ 1 → K (-1) S1)))))))) : M_O_ask h d x1 x2 S K := by
  refine x_enter pn_X11 (Nat.le_of_ble_eq_true rfl) ?_
  show X (gC h) _ _ 0 [(0, .ref (x_ad (gC h) 0)), (1, .int x1), (2, .int x2)] [] S _
  refine x_aload_n (x_at tdX11_ask 0 rfl) rfl rfl ?_
  refine gfC_0_9 (x_at tdX11_ask 1 rfl) wf_X11_71 ?_
  refine x_iload_n (x_at tdX11_ask 2 rfl) rfl rfl ?_
  refine x_cVi (as := [.int x2]) (rest := []) mi_X9_suspects vc_9 (lC_57 h) (x_at tdX11_ask 3 rfl) wm_X11_303 rfl (Nat.le_of_ble_eq_true rfl) rfl H (fun r1 S1 H => ?_)
  refine x_istore_n (x_at tdX11_ask 4 rfl) rfl (by decide) ?_
  refine x_iload_n (x_at tdX11_ask 5 rfl) rfl rfl ?_
  refine x_if_eq 22 (x_at tdX11_ask 6 rfl) rfl (fun c => ?_) (fun c => ?_)
  · have H := H.1 c
    refine x_iconst (x_at tdX11_ask 12 rfl) k_c_m1 ?_
    exact x_ireturn (ty := .int) rfl rfl (x_at tdX11_ask 13 rfl) ⟨_, rfl, H⟩
  · have H := H.2 c
    refine x_iload_n (x_at tdX11_ask 7 rfl) rfl rfl ?_
    refine x_if_lt 22 (x_at tdX11_ask 8 rfl) rfl (fun c => ?_) (fun c => ?_)
    · have H := H.1 c
      refine x_iconst (x_at tdX11_ask 12 rfl) k_c_m1 ?_
      exact x_ireturn (ty := .int) rfl rfl (x_at tdX11_ask 13 rfl) ⟨_, rfl, H⟩
    · have H := H.2 c
      refine x_iload_n (x_at tdX11_ask 9 rfl) rfl rfl ?_
      refine x_iconst (x_at tdX11_ask 10 rfl) k_c_1 ?_
      refine x_ic_le 24 (x_at tdX11_ask 11 rfl) rfl (fun c => ?_) (fun c => ?_)
      · have H := H.1 c
        refine x_iconst (x_at tdX11_ask 14 rfl) k_c_0 ?_
        refine x_istore (x_at tdX11_ask 15 rfl) (by decide) ?_
        refine x_iconst (x_at tdX11_ask 16 rfl) k_c_1 ?_
        refine x_istore (x_at tdX11_ask 17 rfl) (by decide) ?_
        refine x_weak (lv' := [(0, .ref (x_ad (gC h) 0)), (1, .int x1), (3, .int r1), (4, .int 0), (5, .int 1)]) ⟨rfl, rfl, rfl, rfl, rfl, trivial⟩ ?_
        exact H
      · have H := H.2 c
        refine x_iconst (x_at tdX11_ask 12 rfl) k_c_m1 ?_
        exact x_ireturn (ty := .int) rfl rfl (x_at tdX11_ask 13 rfl) ⟨_, rfl, H⟩
theorem b_O_ask_30 {h : xH} {d : Nat}  {x1 : Int32} {x3 : Int32} {x4 : Int32} {x5 : Int32} {S : xSt} {K : Int32 → xSt → Prop}  (H : ((2 < x5 → ((¬ x1 = 0 → M_Tg_leftAtMost h (d + 1) x3 x4 S (fun (r1 : Int32) (S1 : xSt) => K r1 S1)) ∧ (x1 = 0 → K x4 S))) ∧ (¬ 2 < x5 → M_Tg_leftAtMost h (d + 1) x3 x5 S (fun (r2 : Int32) (S2 : xSt) => M_Tg_leftAtMost h (d + 1) x3 x4 S2 (fun (r3 : Int32) (S3 : xSt) => ((r3 ≤ r2 → B_O_ask_63 h d x1 x3 x4 x5 S3 K) ∧ (¬ r3 ≤ r2 → B_O_ask_63 h d x1 x3 x5 x5 S3 K))))))) : B_O_ask_30 h d x1 x3 x4 x5 S K := by
  unfold B_O_ask_30
  refine x_iload (x_at tdX11_ask 18 rfl) rfl ?_
  refine x_iconst (x_at tdX11_ask 19 rfl) k_c_2 ?_
  refine x_ic_gt 69 (x_at tdX11_ask 20 rfl) rfl (fun c => ?_) (fun c => ?_)
  · have H := H.1 c
    refine x_iload_n (x_at tdX11_ask 36 rfl) rfl rfl ?_
    refine x_if_ne 78 (x_at tdX11_ask 37 rfl) rfl (fun c => ?_) (fun c => ?_)
    · have H := H.1 c
      refine x_aload_n (x_at tdX11_ask 40 rfl) rfl rfl ?_
      refine gfC_0_9 (x_at tdX11_ask 41 rfl) wf_X11_71 ?_
      refine x_iload_n (x_at tdX11_ask 42 rfl) rfl rfl ?_
      refine x_iload (x_at tdX11_ask 43 rfl) rfl ?_
      refine x_cVi (as := [.int x3, .int x4]) (rest := []) mi_X9_leftAtMost vc_9 (lC_57 h) (x_at tdX11_ask 44 rfl) wm_X11_306 rfl (Nat.le_of_ble_eq_true rfl) rfl H (fun r1 S1 H => ?_)
      exact x_ireturn (ty := .int) rfl rfl (x_at tdX11_ask 45 rfl) ⟨_, rfl, H⟩
    · have H := H.2 c
      refine x_iload (x_at tdX11_ask 38 rfl) rfl ?_
      refine x_goto 88 (x_at tdX11_ask 39 rfl) rfl ?_
      exact x_ireturn (ty := .int) rfl rfl (x_at tdX11_ask 45 rfl) ⟨_, rfl, H⟩
  · have H := H.2 c
    refine x_aload_n (x_at tdX11_ask 21 rfl) rfl rfl ?_
    refine gfC_0_9 (x_at tdX11_ask 22 rfl) wf_X11_71 ?_
    refine x_iload_n (x_at tdX11_ask 23 rfl) rfl rfl ?_
    refine x_iload (x_at tdX11_ask 24 rfl) rfl ?_
    refine x_cVi (as := [.int x3, .int x5]) (rest := []) mi_X9_leftAtMost vc_9 (lC_57 h) (x_at tdX11_ask 25 rfl) wm_X11_306 rfl (Nat.le_of_ble_eq_true rfl) rfl H (fun r2 S2 H => ?_)
    refine x_aload_n (x_at tdX11_ask 26 rfl) rfl rfl ?_
    refine gfC_0_9 (x_at tdX11_ask 27 rfl) wf_X11_71 ?_
    refine x_iload_n (x_at tdX11_ask 28 rfl) rfl rfl ?_
    refine x_iload (x_at tdX11_ask 29 rfl) rfl ?_
    refine x_cVi (as := [.int x3, .int x4]) (rest := [.int r2]) mi_X9_leftAtMost vc_9 (lC_57 h) (x_at tdX11_ask 30 rfl) wm_X11_306 rfl (Nat.le_of_ble_eq_true rfl) rfl H (fun r3 S3 H => ?_)
    refine x_ic_ge 63 (x_at tdX11_ask 31 rfl) rfl (fun c => ?_) (fun c => ?_)
    · have H := H.1 c
      refine x_weak (lv' := [(0, .ref (x_ad (gC h) 0)), (1, .int x1), (3, .int x3), (4, .int x4), (5, .int x5)]) ⟨rfl, rfl, rfl, rfl, rfl, trivial⟩ ?_
      exact H
    · have H := H.2 c
      refine x_iload (x_at tdX11_ask 32 rfl) rfl ?_
      refine x_istore (x_at tdX11_ask 33 rfl) (by decide) ?_
      refine x_weak (lv' := [(0, .ref (x_ad (gC h) 0)), (1, .int x1), (3, .int x3), (4, .int x5), (5, .int x5)]) ⟨rfl, rfl, rfl, rfl, rfl, trivial⟩ ?_
      exact H
theorem b_O_ask_63 {h : xH} {d : Nat}  {x1 : Int32} {x3 : Int32} {x4 : Int32} {x5 : Int32} {S : xSt} {K : Int32 → xSt → Prop}  (H : B_O_ask_30 h d x1 x3 x4 (x5 + 1) S K) : B_O_ask_63 h d x1 x3 x4 x5 S K := by
  unfold B_O_ask_63
  refine x_iinc (x_at tdX11_ask 34 rfl) rfl (k_inc_1 _) (by decide) ?_
  refine x_goto 30 (x_at tdX11_ask 35 rfl) rfl ?_
  refine x_weak (lv' := [(0, .ref (x_ad (gC h) 0)), (1, .int x1), (3, .int x3), (4, .int x4), (5, .int (x5 + 1))]) ⟨rfl, rfl, rfl, rfl, rfl, trivial⟩ ?_
  exact H
theorem e_Hi_fillBox {h : xH} {d : Nat} {x1 : Int32} {S : xSt} {K : xSt → Prop}  (H : (((¬ (0 : Int32) < 0 ∧ ¬ (x1 * (23 : Int32)) < 0 ∧ ¬ (23 : Int32) < 0) ∧ 0 + 23 ≤ 23 ∧ ((x1 * (23 : Int32)) : Int32).toNatClampNeg + 23 ≤ 69) ∧ K (x_putI (x_putA S 45 (va_cpy (S.1 42) (S.1 45) 0 ((x1 * (23 : Int32)) : Int32).toNatClampNeg 23)) 43 3 ((S.1 43 3) ||| ((1 : Int32) <<< (x1 &&& 31)))))) : M_Hi_fillBox h d x1 S K := by
  refine x_enter pn_X2 (Nat.le_of_ble_eq_true rfl) ?_
  show X (gC h) _ _ 0 [(0, .ref (x_ad (gC h) 43)), (1, .int x1)] [] S _
  refine x_aload_n (x_at tdX2_fillBox 0 rfl) rfl rfl ?_
  refine gfC_43_0 (x_at tdX2_fillBox 1 rfl) wf_X2_20 ?_
  refine gfC_41_1 (x_at tdX2_fillBox 2 rfl) wf_X2_43 ?_
  refine x_iconst (x_at tdX2_fillBox 3 rfl) k_c_0 ?_
  refine x_aload_n (x_at tdX2_fillBox 4 rfl) rfl rfl ?_
  refine gfC_43_2 (x_at tdX2_fillBox 5 rfl) wf_X2_17 ?_
  refine x_iload_n (x_at tdX2_fillBox 6 rfl) rfl rfl ?_
  refine x_bipush (x_at tdX2_fillBox 7 rfl) k_b_23 ?_
  refine x_imul (x_at tdX2_fillBox 8 rfl) ?_
  refine x_bipush (x_at tdX2_fillBox 9 rfl) k_b_23 ?_
  refine x_copyI (lC_42 h) (lC_45 h) wm_X2_34 wn_arraycopy ws_arraycopy wi_J10 (x_at tdX2_fillBox 10 rfl) (Nat.le_of_ble_eq_true rfl) H.1 ?_
  have H := H.2
  refine x_aload_n (x_at tdX2_fillBox 11 rfl) rfl rfl ?_
  refine x_dup (x_at tdX2_fillBox 12 rfl) rfl ?_
  refine gfC_43_3 (x_at tdX2_fillBox 13 rfl) wf_X2_46 ?_
  refine x_top (v := (S.1 43 3)) rfl ?_
  refine x_iconst (x_at tdX2_fillBox 14 rfl) k_c_1 ?_
  refine x_iload_n (x_at tdX2_fillBox 15 rfl) rfl rfl ?_
  refine x_ishl (x_at tdX2_fillBox 16 rfl) ?_
  refine x_ior (x_at tdX2_fillBox 17 rfl) ?_
  refine pfC_43_3 (x_at tdX2_fillBox 18 rfl) wf_X2_46 ?_
  exact x_return rfl (x_at tdX2_fillBox 19 rfl) ⟨rfl, H⟩
theorem e_O_image {h : xH} {d : Nat} {x1 : Int32} {S : xSt} {K : Int32 → xSt → Prop}  (H : ((x1 < 0 → K (-1) S) ∧ (¬ x1 < 0 → ((x1 < 3 → M_Hi_fillBox h d x1 S (fun (S1 : xSt) => M_Co_today h (d + 1) S1 (fun (r2 : Int32) (S2 : xSt) => K r2 S2))) ∧ (¬ x1 < 3 → K (-1) S))))) : M_O_image h d x1 S K := by
  refine x_enter pn_X11 (Nat.le_of_ble_eq_true rfl) ?_
  show X (gC h) _ _ 0 [(0, .ref (x_ad (gC h) 0)), (1, .int x1)] [] S _
  refine x_iload_n (x_at tdX11_image 0 rfl) rfl rfl ?_
  refine x_if_lt 9 (x_at tdX11_image 1 rfl) rfl (fun c => ?_) (fun c => ?_)
  · have H := H.1 c
    refine x_iconst (x_at tdX11_image 5 rfl) k_c_m1 ?_
    exact x_ireturn (ty := .int) rfl rfl (x_at tdX11_image 6 rfl) ⟨_, rfl, H⟩
  · have H := H.2 c
    refine x_iload_n (x_at tdX11_image 2 rfl) rfl rfl ?_
    refine x_iconst (x_at tdX11_image 3 rfl) k_c_3 ?_
    refine x_ic_lt 11 (x_at tdX11_image 4 rfl) rfl (fun c => ?_) (fun c => ?_)
    · have H := H.1 c
      refine x_aload_n (x_at tdX11_image 7 rfl) rfl rfl ?_
      refine gfC_0_5 (x_at tdX11_image 8 rfl) wf_X11_41 ?_
      refine x_iload_n (x_at tdX11_image 9 rfl) rfl rfl ?_
      refine x_cVv (as := [.int x1]) (rest := []) mi_X2_fillBox vc_2 (lC_43 h) (x_at tdX11_image 10 rfl) wm_X11_309 rfl (Nat.le_of_ble_eq_true rfl) rfl H (fun S1 H => ?_)
      refine x_aload_n (x_at tdX11_image 11 rfl) rfl rfl ?_
      refine gfC_0_4 (x_at tdX11_image 12 rfl) wf_X11_32 ?_
      refine x_cVi (as := []) (rest := []) mi_X0_today vc_0 (lC_41 h) (x_at tdX11_image 13 rfl) wm_X11_196 rfl (Nat.le_of_ble_eq_true rfl) rfl H (fun r2 S2 H => ?_)
      exact x_ireturn (ty := .int) rfl rfl (x_at tdX11_image 14 rfl) ⟨_, rfl, H⟩
    · have H := H.2 c
      refine x_iconst (x_at tdX11_image 5 rfl) k_c_m1 ?_
      exact x_ireturn (ty := .int) rfl rfl (x_at tdX11_image 6 rfl) ⟨_, rfl, H⟩
theorem e_Hi_openBox {h : xH} {d : Nat} {x1 : Int32} {S : xSt} {K : Int32 → xSt → Prop}  (H : ((¬ ((S.1 43 3) &&& ((1 : Int32) <<< (x1 &&& 31))) = 0 → (((¬ (x1 * (23 : Int32)) < 0 ∧ ¬ (0 : Int32) < 0 ∧ ¬ (23 : Int32) < 0) ∧ ((x1 * (23 : Int32)) : Int32).toNatClampNeg + 23 ≤ 69 ∧ 0 + 23 ≤ 23) ∧ M_Hi_forgetActs h d (x_putA S 42 (va_cpy (S.1 45) (S.1 42) ((x1 * (23 : Int32)) : Int32).toNatClampNeg 0 23)) (fun (S1 : xSt) => K 1 S1))) ∧ (((S.1 43 3) &&& ((1 : Int32) <<< (x1 &&& 31))) = 0 → K 0 S))) : M_Hi_openBox h d x1 S K := by
  refine x_enter pn_X2 (Nat.le_of_ble_eq_true rfl) ?_
  show X (gC h) _ _ 0 [(0, .ref (x_ad (gC h) 43)), (1, .int x1)] [] S _
  refine x_aload_n (x_at tdX2_openBox 0 rfl) rfl rfl ?_
  refine gfC_43_3 (x_at tdX2_openBox 1 rfl) wf_X2_46 ?_
  refine x_iconst (x_at tdX2_openBox 2 rfl) k_c_1 ?_
  refine x_iload_n (x_at tdX2_openBox 3 rfl) rfl rfl ?_
  refine x_ishl (x_at tdX2_openBox 4 rfl) ?_
  refine x_iand (x_at tdX2_openBox 5 rfl) ?_
  refine x_if_ne 13 (x_at tdX2_openBox 6 rfl) rfl (fun c => ?_) (fun c => ?_)
  · have H := H.1 c
    refine x_aload_n (x_at tdX2_openBox 9 rfl) rfl rfl ?_
    refine gfC_43_2 (x_at tdX2_openBox 10 rfl) wf_X2_17 ?_
    refine x_iload_n (x_at tdX2_openBox 11 rfl) rfl rfl ?_
    refine x_bipush (x_at tdX2_openBox 12 rfl) k_b_23 ?_
    refine x_imul (x_at tdX2_openBox 13 rfl) ?_
    refine x_aload_n (x_at tdX2_openBox 14 rfl) rfl rfl ?_
    refine gfC_43_0 (x_at tdX2_openBox 15 rfl) wf_X2_20 ?_
    refine gfC_41_1 (x_at tdX2_openBox 16 rfl) wf_X2_43 ?_
    refine x_iconst (x_at tdX2_openBox 17 rfl) k_c_0 ?_
    refine x_bipush (x_at tdX2_openBox 18 rfl) k_b_23 ?_
    refine x_copyI (lC_45 h) (lC_42 h) wm_X2_34 wn_arraycopy ws_arraycopy wi_J10 (x_at tdX2_openBox 19 rfl) (Nat.le_of_ble_eq_true rfl) H.1 ?_
    have H := H.2
    refine x_aload_n (x_at tdX2_openBox 20 rfl) rfl rfl ?_
    refine x_cVv (as := []) (rest := []) mi_X2_forgetActs vc_2 (lC_43 h) (x_at tdX2_openBox 21 rfl) wm_X2_49 rfl (Nat.le_of_ble_eq_true rfl) rfl H (fun S1 H => ?_)
    refine x_iconst (x_at tdX2_openBox 22 rfl) k_c_1 ?_
    exact x_ireturn (ty := .boolean) rfl zb1.1 (x_at tdX2_openBox 23 rfl) ⟨_, rfl, H⟩
  · have H := H.2 c
    refine x_iconst (x_at tdX2_openBox 7 rfl) k_c_0 ?_
    exact x_ireturn (ty := .boolean) rfl zb0.1 (x_at tdX2_openBox 8 rfl) ⟨_, rfl, H⟩
theorem e_O_back {h : xH} {d : Nat} {x1 : Int32} {S : xSt} {K : Int32 → xSt → Prop}  (H : ((x1 < 0 → K (-1) S) ∧ (¬ x1 < 0 → ((3 ≤ x1 → K (-1) S) ∧ (¬ 3 ≤ x1 → M_Hi_openBox h d x1 S (fun (r1 : Int32) (S1 : xSt) => ((¬ r1 = 0 → M_Co_today h (d + 3) S1 (fun (r2 : Int32) (S2 : xSt) => K r2 S2)) ∧ (r1 = 0 → K (-1) S1)))))))) : M_O_back h d x1 S K := by
  refine x_enter pn_X11 (Nat.le_of_ble_eq_true rfl) ?_
  show X (gC h) _ _ 0 [(0, .ref (x_ad (gC h) 0)), (1, .int x1)] [] S _
  refine x_iload_n (x_at tdX11_back 0 rfl) rfl rfl ?_
  refine x_if_lt 20 (x_at tdX11_back 1 rfl) rfl (fun c => ?_) (fun c => ?_)
  · have H := H.1 c
    refine x_iconst (x_at tdX11_back 10 rfl) k_c_m1 ?_
    exact x_ireturn (ty := .int) rfl rfl (x_at tdX11_back 11 rfl) ⟨_, rfl, H⟩
  · have H := H.2 c
    refine x_iload_n (x_at tdX11_back 2 rfl) rfl rfl ?_
    refine x_iconst (x_at tdX11_back 3 rfl) k_c_3 ?_
    refine x_ic_ge 20 (x_at tdX11_back 4 rfl) rfl (fun c => ?_) (fun c => ?_)
    · have H := H.1 c
      refine x_iconst (x_at tdX11_back 10 rfl) k_c_m1 ?_
      exact x_ireturn (ty := .int) rfl rfl (x_at tdX11_back 11 rfl) ⟨_, rfl, H⟩
    · have H := H.2 c
      refine x_aload_n (x_at tdX11_back 5 rfl) rfl rfl ?_
      refine gfC_0_5 (x_at tdX11_back 6 rfl) wf_X11_41 ?_
      refine x_iload_n (x_at tdX11_back 7 rfl) rfl rfl ?_
      refine x_cVi (as := [.int x1]) (rest := []) mi_X2_openBox vc_2 (lC_43 h) (x_at tdX11_back 8 rfl) wm_X11_312 rfl (Nat.le_of_ble_eq_true rfl) rfl H (fun r1 S1 H => ?_)
      refine x_if_ne 22 (x_at tdX11_back 9 rfl) rfl (fun c => ?_) (fun c => ?_)
      · have H := H.1 c
        refine x_aload_n (x_at tdX11_back 12 rfl) rfl rfl ?_
        refine gfC_0_4 (x_at tdX11_back 13 rfl) wf_X11_32 ?_
        refine x_cVi (as := []) (rest := []) mi_X0_today vc_0 (lC_41 h) (x_at tdX11_back 14 rfl) wm_X11_196 rfl (Nat.le_of_ble_eq_true rfl) rfl H (fun r2 S2 H => ?_)
        exact x_ireturn (ty := .int) rfl rfl (x_at tdX11_back 15 rfl) ⟨_, rfl, H⟩
      · have H := H.2 c
        refine x_iconst (x_at tdX11_back 10 rfl) k_c_m1 ?_
        exact x_ireturn (ty := .int) rfl rfl (x_at tdX11_back 11 rfl) ⟨_, rfl, H⟩
theorem e_O_about {h : xH} {d : Nat} {x1 : Int32} {S : xSt} {K : Int32 → xSt → Prop}  (H : (((x1.toInt < 0 ∨ 14 < x1.toInt) → K (-1) S) ∧ (x1 = 0 → K (S.1 2 6) S) ∧ (x1 = 1 → K (S.1 2 0) S) ∧ (x1 = 2 → K (S.1 2 4) S) ∧ (x1 = 3 → K (S.1 2 14) S) ∧ (x1 = 4 → M_Co_today h d S (fun (r1 : Int32) (S1 : xSt) => K r1 S1)) ∧ (x1 = 5 → M_Co_seed h d S (fun (r2 : Int32) (S2 : xSt) => K r2 S2)) ∧ (x1 = 6 → M_Co_cuts h d S (fun (r3 : Int32) (S3 : xSt) => K r3 S3)) ∧ (x1 = 7 → K (S.1 2 17) S) ∧ (x1 = 8 → K (S.1 43 4) S) ∧ (x1 = 9 → K ((S.1 43 5) - (S.1 43 4)) S) ∧ (x1 = 10 → K (S.1 57 6) S) ∧ (x1 = 11 → K (S.1 57 7) S) ∧ (x1 = 12 → K (S.1 0 1) S) ∧ (x1 = 13 → K (S.1 15 3) S) ∧ (x1 = 14 → K (S.1 0 11) S))) : M_O_about h d x1 S K := by
  refine x_enter pn_X11 (Nat.le_of_ble_eq_true rfl) ?_
  show X (gC h) _ _ 0 [(0, .ref (x_ad (gC h) 0)), (1, .int x1)] [] S _
  refine x_iload_n (x_at tdX11_about 0 rfl) rfl rfl ?_
  by_cases hq : (x1 : Int32).toInt < 0 ∨ 14 < (x1 : Int32).toInt
  · refine x_tableOut 201 (x_at tdX11_about 1 rfl) hq rfl ?_
    have H := H.1 hq
    refine x_iconst (x_at tdX11_about 65 rfl) k_c_m1 ?_
    exact x_ireturn (ty := .int) rfl rfl (x_at tdX11_about 66 rfl) ⟨_, rfl, H⟩
  · rcases sw_in_0_14 hq with hx | hx | hx | hx | hx | hx | hx | hx | hx | hx | hx | hx | hx | hx | hx
    · refine x_tsw 76 (x_at tdX11_about 1 rfl) hx (by decide) (by decide) rfl rfl ?_
      have H := H.2.1 hx
      refine x_aload_n (x_at tdX11_about 2 rfl) rfl rfl ?_
      refine gfC_0_2 (x_at tdX11_about 3 rfl) wf_X11_16 ?_
      refine gfC_2_6 (x_at tdX11_about 4 rfl) wf_X11_126 ?_
      exact x_ireturn (ty := .int) rfl rfl (x_at tdX11_about 5 rfl) ⟨_, rfl, H⟩
    · refine x_tsw 84 (x_at tdX11_about 1 rfl) hx (by decide) (by decide) rfl rfl ?_
      have H := H.2.2.1 hx
      refine x_aload_n (x_at tdX11_about 6 rfl) rfl rfl ?_
      refine gfC_0_2 (x_at tdX11_about 7 rfl) wf_X11_16 ?_
      refine gfC_2_0 (x_at tdX11_about 8 rfl) wf_X11_161 ?_
      exact x_ireturn (ty := .int) rfl rfl (x_at tdX11_about 9 rfl) ⟨_, rfl, H⟩
    · refine x_tsw 92 (x_at tdX11_about 1 rfl) hx (by decide) (by decide) rfl rfl ?_
      have H := H.2.2.2.1 hx
      refine x_aload_n (x_at tdX11_about 10 rfl) rfl rfl ?_
      refine gfC_0_2 (x_at tdX11_about 11 rfl) wf_X11_16 ?_
      refine gfC_2_4 (x_at tdX11_about 12 rfl) wf_X11_315 ?_
      exact x_ireturn (ty := .int) rfl rfl (x_at tdX11_about 13 rfl) ⟨_, rfl, H⟩
    · refine x_tsw 100 (x_at tdX11_about 1 rfl) hx (by decide) (by decide) rfl rfl ?_
      have H := H.2.2.2.2.1 hx
      refine x_aload_n (x_at tdX11_about 14 rfl) rfl rfl ?_
      refine gfC_0_2 (x_at tdX11_about 15 rfl) wf_X11_16 ?_
      refine gfC_2_14 (x_at tdX11_about 16 rfl) wf_X11_318 ?_
      exact x_ireturn (ty := .int) rfl rfl (x_at tdX11_about 17 rfl) ⟨_, rfl, H⟩
    · refine x_tsw 108 (x_at tdX11_about 1 rfl) hx (by decide) (by decide) rfl rfl ?_
      have H := H.2.2.2.2.2.1 hx
      refine x_aload_n (x_at tdX11_about 18 rfl) rfl rfl ?_
      refine gfC_0_4 (x_at tdX11_about 19 rfl) wf_X11_32 ?_
      refine x_cVi (as := []) (rest := []) mi_X0_today vc_0 (lC_41 h) (x_at tdX11_about 20 rfl) wm_X11_196 rfl (Nat.le_of_ble_eq_true rfl) rfl H (fun r1 S1 H => ?_)
      exact x_ireturn (ty := .int) rfl rfl (x_at tdX11_about 21 rfl) ⟨_, rfl, H⟩
    · refine x_tsw 116 (x_at tdX11_about 1 rfl) hx (by decide) (by decide) rfl rfl ?_
      have H := H.2.2.2.2.2.2.1 hx
      refine x_aload_n (x_at tdX11_about 22 rfl) rfl rfl ?_
      refine gfC_0_4 (x_at tdX11_about 23 rfl) wf_X11_32 ?_
      refine x_cVi (as := []) (rest := []) mi_X0_seed vc_0 (lC_41 h) (x_at tdX11_about 24 rfl) wm_X11_321 rfl (Nat.le_of_ble_eq_true rfl) rfl H (fun r2 S2 H => ?_)
      exact x_ireturn (ty := .int) rfl rfl (x_at tdX11_about 25 rfl) ⟨_, rfl, H⟩
    · refine x_tsw 124 (x_at tdX11_about 1 rfl) hx (by decide) (by decide) rfl rfl ?_
      have H := H.2.2.2.2.2.2.2.1 hx
      refine x_aload_n (x_at tdX11_about 26 rfl) rfl rfl ?_
      refine gfC_0_4 (x_at tdX11_about 27 rfl) wf_X11_32 ?_
      refine x_cVi (as := []) (rest := []) mi_X0_cuts vc_0 (lC_41 h) (x_at tdX11_about 28 rfl) wm_X11_186 rfl (Nat.le_of_ble_eq_true rfl) rfl H (fun r3 S3 H => ?_)
      exact x_ireturn (ty := .int) rfl rfl (x_at tdX11_about 29 rfl) ⟨_, rfl, H⟩
    · refine x_tsw 132 (x_at tdX11_about 1 rfl) hx (by decide) (by decide) rfl rfl ?_
      have H := H.2.2.2.2.2.2.2.2.1 hx
      refine x_aload_n (x_at tdX11_about 30 rfl) rfl rfl ?_
      refine gfC_0_2 (x_at tdX11_about 31 rfl) wf_X11_16 ?_
      refine gfC_2_17 (x_at tdX11_about 32 rfl) wf_X11_324 ?_
      exact x_ireturn (ty := .int) rfl rfl (x_at tdX11_about 33 rfl) ⟨_, rfl, H⟩
    · refine x_tsw 140 (x_at tdX11_about 1 rfl) hx (by decide) (by decide) rfl rfl ?_
      have H := H.2.2.2.2.2.2.2.2.2.1 hx
      refine x_aload_n (x_at tdX11_about 34 rfl) rfl rfl ?_
      refine gfC_0_5 (x_at tdX11_about 35 rfl) wf_X11_41 ?_
      refine gfC_43_4 (x_at tdX11_about 36 rfl) wf_X11_327 ?_
      exact x_ireturn (ty := .int) rfl rfl (x_at tdX11_about 37 rfl) ⟨_, rfl, H⟩
    · refine x_tsw 148 (x_at tdX11_about 1 rfl) hx (by decide) (by decide) rfl rfl ?_
      have H := H.2.2.2.2.2.2.2.2.2.2.1 hx
      refine x_aload_n (x_at tdX11_about 38 rfl) rfl rfl ?_
      refine gfC_0_5 (x_at tdX11_about 39 rfl) wf_X11_41 ?_
      refine gfC_43_5 (x_at tdX11_about 40 rfl) wf_X11_330 ?_
      refine x_aload_n (x_at tdX11_about 41 rfl) rfl rfl ?_
      refine gfC_0_5 (x_at tdX11_about 42 rfl) wf_X11_41 ?_
      refine gfC_43_4 (x_at tdX11_about 43 rfl) wf_X11_327 ?_
      refine x_isub (x_at tdX11_about 44 rfl) ?_
      exact x_ireturn (ty := .int) rfl rfl (x_at tdX11_about 45 rfl) ⟨_, rfl, H⟩
    · refine x_tsw 164 (x_at tdX11_about 1 rfl) hx (by decide) (by decide) rfl rfl ?_
      have H := H.2.2.2.2.2.2.2.2.2.2.2.1 hx
      refine x_aload_n (x_at tdX11_about 46 rfl) rfl rfl ?_
      refine gfC_0_9 (x_at tdX11_about 47 rfl) wf_X11_71 ?_
      refine gfC_57_6 (x_at tdX11_about 48 rfl) wf_X11_289 ?_
      exact x_ireturn (ty := .int) rfl rfl (x_at tdX11_about 49 rfl) ⟨_, rfl, H⟩
    · refine x_tsw 172 (x_at tdX11_about 1 rfl) hx (by decide) (by decide) rfl rfl ?_
      have H := H.2.2.2.2.2.2.2.2.2.2.2.2.1 hx
      refine x_aload_n (x_at tdX11_about 50 rfl) rfl rfl ?_
      refine gfC_0_9 (x_at tdX11_about 51 rfl) wf_X11_71 ?_
      refine gfC_57_7 (x_at tdX11_about 52 rfl) wf_X11_299 ?_
      exact x_ireturn (ty := .int) rfl rfl (x_at tdX11_about 53 rfl) ⟨_, rfl, H⟩
    · refine x_tsw 180 (x_at tdX11_about 1 rfl) hx (by decide) (by decide) rfl rfl ?_
      have H := H.2.2.2.2.2.2.2.2.2.2.2.2.2.1 hx
      refine x_aload_n (x_at tdX11_about 54 rfl) rfl rfl ?_
      refine gfC_0_1 (x_at tdX11_about 55 rfl) wf_X11_89 ?_
      exact x_ireturn (ty := .int) rfl rfl (x_at tdX11_about 56 rfl) ⟨_, rfl, H⟩
    · refine x_tsw 185 (x_at tdX11_about 1 rfl) hx (by decide) (by decide) rfl rfl ?_
      have H := H.2.2.2.2.2.2.2.2.2.2.2.2.2.2.1 hx
      refine x_aload_n (x_at tdX11_about 57 rfl) rfl rfl ?_
      refine gfC_0_2 (x_at tdX11_about 58 rfl) wf_X11_16 ?_
      refine gfC_2_16 (x_at tdX11_about 59 rfl) wf_X11_333 ?_
      refine gfC_15_3 (x_at tdX11_about 60 rfl) wf_X11_337 ?_
      exact x_ireturn (ty := .int) rfl rfl (x_at tdX11_about 61 rfl) ⟨_, rfl, H⟩
    · refine x_tsw 196 (x_at tdX11_about 1 rfl) hx (by decide) (by decide) rfl rfl ?_
      have H := H.2.2.2.2.2.2.2.2.2.2.2.2.2.2.2 hx
      refine x_aload_n (x_at tdX11_about 62 rfl) rfl rfl ?_
      refine gfC_0_11 (x_at tdX11_about 63 rfl) wf_X11_123 ?_
      exact x_ireturn (ty := .int) rfl rfl (x_at tdX11_about 64 rfl) ⟨_, rfl, H⟩
end
