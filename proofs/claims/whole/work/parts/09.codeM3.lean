section
theorem e_M_clash {h : xH} {d : Nat} {x1 : Int32} {x2 : Int32} {S : xSt} {K : Int32 → xSt → Prop}  (H : M_M_isMan h (d + 3) x1 S (fun (r1 : Int32) (S1 : xSt) => ((r1 = 0 → K (-1) S1) ∧ (¬ r1 = 0 → M_M_isIn h (d + 4) x2 0 1 S1 (fun (r2 : Int32) (S2 : xSt) => ((¬ r2 = 0 → M_M_layCanKeep h d x1 S2 (fun (S3 : xSt) => B_M_clash_29 h d x1 x2 0 0 S3 K)) ∧ (r2 = 0 → K (-1) S2))))))) : M_M_clash h d x1 x2 S K := by
  refine x_enter pn_X12 (Nat.le_of_ble_eq_true rfl) ?_
  show X (gM h) _ _ 0 [(0, .ref (x_ad (gM h) 0)), (1, .int x1), (2, .int x2)] [] S _
  refine x_aload_n (x_at tdX12_clash 0 rfl) rfl rfl ?_
  refine x_iload_n (x_at tdX12_clash 1 rfl) rfl rfl ?_
  refine x_cVi (as := [.int x1]) (rest := []) mi_X12_isMan vc_12 (lM_0 h) (x_at tdX12_clash 2 rfl) wm_X12_460 rfl (Nat.le_of_ble_eq_true rfl) rfl H (fun r1 S1 H => ?_)
  refine x_if_eq 17 (x_at tdX12_clash 3 rfl) rfl (fun c => ?_) (fun c => ?_)
  · have H := H.1 c
    refine x_iconst (x_at tdX12_clash 9 rfl) k_c_m1 ?_
    exact x_ireturn (ty := .int) rfl rfl (x_at tdX12_clash 10 rfl) ⟨_, rfl, H⟩
  · have H := H.2 c
    refine x_iload_n (x_at tdX12_clash 4 rfl) rfl rfl ?_
    refine x_iconst (x_at tdX12_clash 5 rfl) k_c_0 ?_
    refine x_iconst (x_at tdX12_clash 6 rfl) k_c_1 ?_
    refine x_cSi (as := [.int x2, .int 0, .int 1]) (rest := []) mi_X12_isIn (x_at tdX12_clash 7 rfl) wm_X12_453 rfl (Nat.le_of_ble_eq_true rfl) rfl H (fun r2 S2 H => ?_)
    refine x_if_ne 19 (x_at tdX12_clash 8 rfl) rfl (fun c => ?_) (fun c => ?_)
    · have H := H.1 c
      refine x_aload_n (x_at tdX12_clash 11 rfl) rfl rfl ?_
      refine x_iload_n (x_at tdX12_clash 12 rfl) rfl rfl ?_
      refine x_cVv (as := [.int x1]) (rest := []) mi_X12_layCanKeep vc_12 (lM_0 h) (x_at tdX12_clash 13 rfl) wm_X12_540 rfl (Nat.le_of_ble_eq_true rfl) rfl H (fun S3 H => ?_)
      refine x_iconst (x_at tdX12_clash 14 rfl) k_c_0 ?_
      refine x_istore_n (x_at tdX12_clash 15 rfl) rfl (by decide) ?_
      refine x_iconst (x_at tdX12_clash 16 rfl) k_c_0 ?_
      refine x_istore (x_at tdX12_clash 17 rfl) (by decide) ?_
      refine x_weak (lv' := [(0, .ref (x_ad (gM h) 0)), (1, .int x1), (2, .int x2), (3, .int 0), (4, .int 0)]) ⟨rfl, rfl, rfl, rfl, rfl, trivial⟩ ?_
      exact H
    · have H := H.2 c
      refine x_iconst (x_at tdX12_clash 9 rfl) k_c_m1 ?_
      exact x_ireturn (ty := .int) rfl rfl (x_at tdX12_clash 10 rfl) ⟨_, rfl, H⟩
theorem b_M_clash_29 {h : xH} {d : Nat}  {x1 : Int32} {x2 : Int32} {x3 : Int32} {x4 : Int32} {S : xSt} {K : Int32 → xSt → Prop}  (H : (((S.1 0 58) ≤ x4 → B_M_clash_94 h d x2 x3 (-1) 1 S K) ∧ (¬ (S.1 0 58) ≤ x4 → M_M_isOn h (d + 4) x4 S (fun (r1 : Int32) (S1 : xSt) => ((r1 = 0 → B_M_clash_73 h d x1 x2 x4 x3 S1 K) ∧ (¬ r1 = 0 → (vp_in x4 10 ∧ ((¬ (S1.1 26 (x4 : Int32).toNatClampNeg) = x1 → B_M_clash_73 h d x1 x2 x4 x3 S1 K) ∧ ((S1.1 26 (x4 : Int32).toNatClampNeg) = x1 → (vp_in x4 10 ∧ (((S1.1 33 (x4 : Int32).toNatClampNeg) = 0 → B_M_clash_73 h d x1 x2 x4 x3 S1 K) ∧ (¬ (S1.1 33 (x4 : Int32).toNatClampNeg) = 0 → B_M_clash_74 h d x1 x2 x4 1 x3 S1 K)))))))))))) : B_M_clash_29 h d x1 x2 x3 x4 S K := by
  unfold B_M_clash_29
  refine x_iload (x_at tdX12_clash 18 rfl) rfl ?_
  refine x_aload_n (x_at tdX12_clash 19 rfl) rfl rfl ?_
  refine gfM_0_58 (x_at tdX12_clash 20 rfl) wf_X12_429 ?_
  refine x_ic_ge 88 (x_at tdX12_clash 21 rfl) rfl (fun c => ?_) (fun c => ?_)
  · have H := H.1 c
    refine x_iconst (x_at tdX12_clash 48 rfl) k_c_m1 ?_
    refine x_istore (x_at tdX12_clash 49 rfl) (by decide) ?_
    refine x_iconst (x_at tdX12_clash 50 rfl) k_c_1 ?_
    refine x_istore (x_at tdX12_clash 51 rfl) (by decide) ?_
    refine x_weak (lv' := [(0, .ref (x_ad (gM h) 0)), (2, .int x2), (3, .int x3), (4, .int (-1)), (5, .int 1)]) ⟨rfl, rfl, rfl, rfl, rfl, trivial⟩ ?_
    exact H
  · have H := H.2 c
    refine x_iload_n (x_at tdX12_clash 22 rfl) rfl rfl ?_
    refine x_aload_n (x_at tdX12_clash 23 rfl) rfl rfl ?_
    refine x_iload (x_at tdX12_clash 24 rfl) rfl ?_
    refine x_cVi (as := [.int x4]) (rest := [.int x3]) mi_X12_isOn vc_12 (lM_0 h) (x_at tdX12_clash 25 rfl) wm_X12_469 rfl (Nat.le_of_ble_eq_true rfl) rfl H (fun r1 S1 H => ?_)
    refine x_if_eq 73 (x_at tdX12_clash 26 rfl) rfl (fun c => ?_) (fun c => ?_)
    · have H := H.1 c
      refine x_weak (lv' := [(0, .ref (x_ad (gM h) 0)), (1, .int x1), (2, .int x2), (4, .int x4)]) ⟨rfl, rfl, rfl, rfl, trivial⟩ ?_
      exact H
    · have H := H.2 c
      refine x_aload_n (x_at tdX12_clash 27 rfl) rfl rfl ?_
      refine gfM_0_41 (x_at tdX12_clash 28 rfl) wf_X12_90 ?_
      refine x_iload (x_at tdX12_clash 29 rfl) rfl ?_
      refine x_iald (lM_26 h) (x_at tdX12_clash 30 rfl) H.1 ?_
      have H := H.2
      refine x_iload_n (x_at tdX12_clash 31 rfl) rfl rfl ?_
      refine x_ic_ne 73 (x_at tdX12_clash 32 rfl) rfl (fun c => ?_) (fun c => ?_)
      · have H := H.1 c
        refine x_weak (lv' := [(0, .ref (x_ad (gM h) 0)), (1, .int x1), (2, .int x2), (4, .int x4)]) ⟨rfl, rfl, rfl, rfl, trivial⟩ ?_
        exact H
      · have H := H.2 c
        refine x_aload_n (x_at tdX12_clash 33 rfl) rfl rfl ?_
        refine gfM_0_48 (x_at tdX12_clash 34 rfl) wf_X12_112 ?_
        refine x_iload (x_at tdX12_clash 35 rfl) rfl ?_
        refine x_zald (lM_33 h) (x_at tdX12_clash 36 rfl) H.1 ?_
        have H := H.2
        refine x_if_eq 73 (x_at tdX12_clash 37 rfl) rfl (fun c => ?_) (fun c => ?_)
        · have H := H.1 c
          refine x_weak (lv' := [(0, .ref (x_ad (gM h) 0)), (1, .int x1), (2, .int x2), (4, .int x4)]) ⟨rfl, rfl, rfl, rfl, trivial⟩ ?_
          exact H
        · have H := H.2 c
          refine x_iconst (x_at tdX12_clash 38 rfl) k_c_1 ?_
          refine x_goto 74 (x_at tdX12_clash 39 rfl) rfl ?_
          refine x_weak (lv' := [(0, .ref (x_ad (gM h) 0)), (1, .int x1), (2, .int x2), (4, .int x4)]) ⟨rfl, rfl, rfl, rfl, trivial⟩ ?_
          exact H
theorem b_M_clash_73 {h : xH} {d : Nat}  {x1 : Int32} {x2 : Int32} {x4 : Int32} {s0 : Int32} {S : xSt} {K : Int32 → xSt → Prop}  (H : B_M_clash_74 h d x1 x2 x4 0 s0 S K) : B_M_clash_73 h d x1 x2 x4 s0 S K := by
  unfold B_M_clash_73
  refine x_iconst (x_at tdX12_clash 40 rfl) k_c_0 ?_
  refine x_weak (lv' := [(0, .ref (x_ad (gM h) 0)), (1, .int x1), (2, .int x2), (4, .int x4)]) ⟨rfl, rfl, rfl, rfl, trivial⟩ ?_
  exact H
theorem b_M_clash_74 {h : xH} {d : Nat}  {x1 : Int32} {x2 : Int32} {x4 : Int32} {s0 : Int32} {s1 : Int32} {S : xSt} {K : Int32 → xSt → Prop}  (H : M_M_truth h (d + 4) s0 S (fun (r1 : Int32) (S1 : xSt) => B_M_clash_29 h d x1 x2 (s1 ||| (r1 <<< (x4 &&& 31))) (x4 + 1) S1 K)) : B_M_clash_74 h d x1 x2 x4 s0 s1 S K := by
  unfold B_M_clash_74
  refine x_cSi (as := [.int s0]) (rest := [.int s1]) mi_X12_truth (x_at tdX12_clash 41 rfl) wm_X12_344 rfl (Nat.le_of_ble_eq_true rfl) rfl H (fun r1 S1 H => ?_)
  refine x_iload (x_at tdX12_clash 42 rfl) rfl ?_
  refine x_ishl (x_at tdX12_clash 43 rfl) ?_
  refine x_ior (x_at tdX12_clash 44 rfl) ?_
  refine x_istore_n (x_at tdX12_clash 45 rfl) rfl (by decide) ?_
  refine x_iinc (x_at tdX12_clash 46 rfl) rfl (k_inc_1 _) (by decide) ?_
  refine x_goto 29 (x_at tdX12_clash 47 rfl) rfl ?_
  refine x_weak (lv' := [(0, .ref (x_ad (gM h) 0)), (1, .int x1), (2, .int x2), (3, .int (s1 ||| (r1 <<< (x4 &&& 31)))), (4, .int (x4 + 1))]) ⟨rfl, rfl, rfl, rfl, rfl, trivial⟩ ?_
  exact H
theorem b_M_clash_94 {h : xH} {d : Nat}  {x2 : Int32} {x3 : Int32} {x4 : Int32} {x5 : Int32} {S : xSt} {K : Int32 → xSt → Prop}  (H : ((x3 < x5 → ((0 ≤ x4 → ((¬ x2 = 0 → K x4 S) ∧ (x2 = 0 → M_M_members h (d + 4) x4 S (fun (r1 : Int32) (S1 : xSt) => K r1 S1)))) ∧ (¬ 0 ≤ x4 → K (-1) S))) ∧ (¬ x3 < x5 → ((¬ (x5 &&& (x3 ^^^ (-1 : Int32))) = 0 → B_M_clash_141 h d x2 x3 x4 x5 S K) ∧ ((x5 &&& (x3 ^^^ (-1 : Int32))) = 0 → (vp_in x5 1024 ∧ ((¬ (S.1 43 (x5 : Int32).toNatClampNeg) = 0 → B_M_clash_141 h d x2 x3 x4 x5 S K) ∧ ((S.1 43 (x5 : Int32).toNatClampNeg) = 0 → ((x4 < 0 → B_M_clash_137 h d x2 x3 x5 S K) ∧ (¬ x4 < 0 → M_M_members h (d + 4) x5 S (fun (r2 : Int32) (S2 : xSt) => M_M_members h (d + 4) x4 S2 (fun (r3 : Int32) (S3 : xSt) => ((r3 ≤ r2 → B_M_clash_141 h d x2 x3 x4 x5 S3 K) ∧ (¬ r3 ≤ r2 → B_M_clash_137 h d x2 x3 x5 S3 K)))))))))))))) : B_M_clash_94 h d x2 x3 x4 x5 S K := by
  unfold B_M_clash_94
  refine x_iload (x_at tdX12_clash 52 rfl) rfl ?_
  refine x_iload_n (x_at tdX12_clash 53 rfl) rfl rfl ?_
  refine x_ic_gt 147 (x_at tdX12_clash 54 rfl) rfl (fun c => ?_) (fun c => ?_)
  · have H := H.1 c
    refine x_iload (x_at tdX12_clash 77 rfl) rfl ?_
    refine x_if_ge 156 (x_at tdX12_clash 78 rfl) rfl (fun c => ?_) (fun c => ?_)
    · have H := H.1 c
      refine x_iload_n (x_at tdX12_clash 81 rfl) rfl rfl ?_
      refine x_if_ne 168 (x_at tdX12_clash 82 rfl) rfl (fun c => ?_) (fun c => ?_)
      · have H := H.1 c
        refine x_iload (x_at tdX12_clash 86 rfl) rfl ?_
        exact x_ireturn (ty := .int) rfl rfl (x_at tdX12_clash 87 rfl) ⟨_, rfl, H⟩
      · have H := H.2 c
        refine x_iload (x_at tdX12_clash 83 rfl) rfl ?_
        refine x_cSi (as := [.int x4]) (rest := []) mi_X12_members (x_at tdX12_clash 84 rfl) wm_X12_516 rfl (Nat.le_of_ble_eq_true rfl) rfl H (fun r1 S1 H => ?_)
        refine x_goto 170 (x_at tdX12_clash 85 rfl) rfl ?_
        exact x_ireturn (ty := .int) rfl rfl (x_at tdX12_clash 87 rfl) ⟨_, rfl, H⟩
    · have H := H.2 c
      refine x_iconst (x_at tdX12_clash 79 rfl) k_c_m1 ?_
      refine x_goto 170 (x_at tdX12_clash 80 rfl) rfl ?_
      exact x_ireturn (ty := .int) rfl rfl (x_at tdX12_clash 87 rfl) ⟨_, rfl, H⟩
  · have H := H.2 c
    refine x_iload (x_at tdX12_clash 55 rfl) rfl ?_
    refine x_iload_n (x_at tdX12_clash 56 rfl) rfl rfl ?_
    refine x_iconst (x_at tdX12_clash 57 rfl) k_c_m1 ?_
    refine x_ixor (x_at tdX12_clash 58 rfl) ?_
    refine x_iand (x_at tdX12_clash 59 rfl) ?_
    refine x_if_ne 141 (x_at tdX12_clash 60 rfl) rfl (fun c => ?_) (fun c => ?_)
    · have H := H.1 c
      refine x_weak (lv' := [(0, .ref (x_ad (gM h) 0)), (2, .int x2), (3, .int x3), (4, .int x4), (5, .int x5)]) ⟨rfl, rfl, rfl, rfl, rfl, trivial⟩ ?_
      exact H
    · have H := H.2 c
      refine x_aload_n (x_at tdX12_clash 61 rfl) rfl rfl ?_
      refine gfM_0_86 (x_at tdX12_clash 62 rfl) wf_X12_145 ?_
      refine x_iload (x_at tdX12_clash 63 rfl) rfl ?_
      refine x_zald (lM_43 h) (x_at tdX12_clash 64 rfl) H.1 ?_
      have H := H.2
      refine x_if_ne 141 (x_at tdX12_clash 65 rfl) rfl (fun c => ?_) (fun c => ?_)
      · have H := H.1 c
        refine x_weak (lv' := [(0, .ref (x_ad (gM h) 0)), (2, .int x2), (3, .int x3), (4, .int x4), (5, .int x5)]) ⟨rfl, rfl, rfl, rfl, rfl, trivial⟩ ?_
        exact H
      · have H := H.2 c
        refine x_iload (x_at tdX12_clash 66 rfl) rfl ?_
        refine x_if_lt 137 (x_at tdX12_clash 67 rfl) rfl (fun c => ?_) (fun c => ?_)
        · have H := H.1 c
          refine x_weak (lv' := [(0, .ref (x_ad (gM h) 0)), (2, .int x2), (3, .int x3), (5, .int x5)]) ⟨rfl, rfl, rfl, rfl, trivial⟩ ?_
          exact H
        · have H := H.2 c
          refine x_iload (x_at tdX12_clash 68 rfl) rfl ?_
          refine x_cSi (as := [.int x5]) (rest := []) mi_X12_members (x_at tdX12_clash 69 rfl) wm_X12_516 rfl (Nat.le_of_ble_eq_true rfl) rfl H (fun r2 S2 H => ?_)
          refine x_iload (x_at tdX12_clash 70 rfl) rfl ?_
          refine x_cSi (as := [.int x4]) (rest := [.int r2]) mi_X12_members (x_at tdX12_clash 71 rfl) wm_X12_516 rfl (Nat.le_of_ble_eq_true rfl) rfl H (fun r3 S3 H => ?_)
          refine x_ic_ge 141 (x_at tdX12_clash 72 rfl) rfl (fun c => ?_) (fun c => ?_)
          · have H := H.1 c
            refine x_weak (lv' := [(0, .ref (x_ad (gM h) 0)), (2, .int x2), (3, .int x3), (4, .int x4), (5, .int x5)]) ⟨rfl, rfl, rfl, rfl, rfl, trivial⟩ ?_
            exact H
          · have H := H.2 c
            refine x_weak (lv' := [(0, .ref (x_ad (gM h) 0)), (2, .int x2), (3, .int x3), (5, .int x5)]) ⟨rfl, rfl, rfl, rfl, trivial⟩ ?_
            exact H
theorem b_M_clash_137 {h : xH} {d : Nat}  {x2 : Int32} {x3 : Int32} {x5 : Int32} {S : xSt} {K : Int32 → xSt → Prop}  (H : B_M_clash_141 h d x2 x3 x5 x5 S K) : B_M_clash_137 h d x2 x3 x5 S K := by
  unfold B_M_clash_137
  refine x_iload (x_at tdX12_clash 73 rfl) rfl ?_
  refine x_istore (x_at tdX12_clash 74 rfl) (by decide) ?_
  refine x_weak (lv' := [(0, .ref (x_ad (gM h) 0)), (2, .int x2), (3, .int x3), (4, .int x5), (5, .int x5)]) ⟨rfl, rfl, rfl, rfl, rfl, trivial⟩ ?_
  exact H
theorem b_M_clash_141 {h : xH} {d : Nat}  {x2 : Int32} {x3 : Int32} {x4 : Int32} {x5 : Int32} {S : xSt} {K : Int32 → xSt → Prop}  (H : B_M_clash_94 h d x2 x3 x4 (x5 + 1) S K) : B_M_clash_141 h d x2 x3 x4 x5 S K := by
  unfold B_M_clash_141
  refine x_iinc (x_at tdX12_clash 75 rfl) rfl (k_inc_1 _) (by decide) ?_
  refine x_goto 94 (x_at tdX12_clash 76 rfl) rfl ?_
  refine x_weak (lv' := [(0, .ref (x_ad (gM h) 0)), (2, .int x2), (3, .int x3), (4, .int x4), (5, .int (x5 + 1))]) ⟨rfl, rfl, rfl, rfl, rfl, trivial⟩ ?_
  exact H
theorem e_M_leaving {h : xH} {d : Nat} {x1 : Int32} {x2 : Int32} {S : xSt} {K : Int32 → xSt → Prop}  (H : B_M_leaving_5 h d x1 x2 0 0 S K) : M_M_leaving h d x1 x2 S K := by
  refine x_enter pn_X12 (Nat.le_of_ble_eq_true rfl) ?_
  show X (gM h) _ _ 0 [(0, .ref (x_ad (gM h) 0)), (1, .int x1), (2, .int x2)] [] S _
  refine x_iconst (x_at tdX12_leaving 0 rfl) k_c_0 ?_
  refine x_istore_n (x_at tdX12_leaving 1 rfl) rfl (by decide) ?_
  refine x_iconst (x_at tdX12_leaving 2 rfl) k_c_0 ?_
  refine x_istore (x_at tdX12_leaving 3 rfl) (by decide) ?_
  refine x_weak (lv' := [(0, .ref (x_ad (gM h) 0)), (1, .int x1), (2, .int x2), (3, .int 0), (4, .int 0)]) ⟨rfl, rfl, rfl, rfl, rfl, trivial⟩ ?_
  exact H
theorem b_M_leaving_5 {h : xH} {d : Nat}  {x1 : Int32} {x2 : Int32} {x3 : Int32} {x4 : Int32} {S : xSt} {K : Int32 → xSt → Prop}  (H : (((S.1 0 58) ≤ x4 → B_M_leaving_100 h d x3 ((S.1 0 58) - (1 : Int32)) S K) ∧ (¬ (S.1 0 58) ≤ x4 → M_M_isOn h d x4 S (fun (r1 : Int32) (S1 : xSt) => ((r1 = 0 → B_M_leaving_77 h d x1 x2 x4 x3 S1 K) ∧ (¬ r1 = 0 → (vp_in x4 10 ∧ ((¬ (S1.1 26 (x4 : Int32).toNatClampNeg) = x1 → B_M_leaving_77 h d x1 x2 x4 x3 S1 K) ∧ ((S1.1 26 (x4 : Int32).toNatClampNeg) = x1 → (vp_in x4 10 ∧ ((¬ (S1.1 28 (x4 : Int32).toNatClampNeg) = x2 → B_M_leaving_77 h d x1 x2 x4 x3 S1 K) ∧ ((S1.1 28 (x4 : Int32).toNatClampNeg) = x2 → (vp_in x4 10 ∧ ((¬ (S1.1 33 (x4 : Int32).toNatClampNeg) = 0 → B_M_leaving_77 h d x1 x2 x4 x3 S1 K) ∧ ((S1.1 33 (x4 : Int32).toNatClampNeg) = 0 → (vp_in x4 10 ∧ (((S1.1 29 (x4 : Int32).toNatClampNeg) < (S1.1 34 20) → B_M_leaving_77 h d x1 x2 x4 x3 S1 K) ∧ (¬ (S1.1 29 (x4 : Int32).toNatClampNeg) < (S1.1 34 20) → B_M_leaving_78 h d x1 x2 x4 1 x3 S1 K)))))))))))))))))) : B_M_leaving_5 h d x1 x2 x3 x4 S K := by
  unfold B_M_leaving_5
  refine x_iload (x_at tdX12_leaving 4 rfl) rfl ?_
  refine x_aload_n (x_at tdX12_leaving 5 rfl) rfl rfl ?_
  refine gfM_0_58 (x_at tdX12_leaving 6 rfl) wf_X12_429 ?_
  refine x_ic_ge 92 (x_at tdX12_leaving 7 rfl) rfl (fun c => ?_) (fun c => ?_)
  · have H := H.1 c
    refine x_aload_n (x_at tdX12_leaving 49 rfl) rfl rfl ?_
    refine gfM_0_58 (x_at tdX12_leaving 50 rfl) wf_X12_429 ?_
    refine x_iconst (x_at tdX12_leaving 51 rfl) k_c_1 ?_
    refine x_isub (x_at tdX12_leaving 52 rfl) ?_
    refine x_istore (x_at tdX12_leaving 53 rfl) (by decide) ?_
    refine x_weak (lv' := [(0, .ref (x_ad (gM h) 0)), (3, .int x3), (4, .int ((S.1 0 58) - (1 : Int32)))]) ⟨rfl, rfl, rfl, trivial⟩ ?_
    exact H
  · have H := H.2 c
    refine x_iload_n (x_at tdX12_leaving 8 rfl) rfl rfl ?_
    refine x_aload_n (x_at tdX12_leaving 9 rfl) rfl rfl ?_
    refine x_iload (x_at tdX12_leaving 10 rfl) rfl ?_
    refine x_cVi (as := [.int x4]) (rest := [.int x3]) mi_X12_isOn vc_12 (lM_0 h) (x_at tdX12_leaving 11 rfl) wm_X12_469 rfl (Nat.le_of_ble_eq_true rfl) rfl H (fun r1 S1 H => ?_)
    refine x_if_eq 77 (x_at tdX12_leaving 12 rfl) rfl (fun c => ?_) (fun c => ?_)
    · have H := H.1 c
      refine x_weak (lv' := [(0, .ref (x_ad (gM h) 0)), (1, .int x1), (2, .int x2), (4, .int x4)]) ⟨rfl, rfl, rfl, rfl, trivial⟩ ?_
      exact H
    · have H := H.2 c
      refine x_aload_n (x_at tdX12_leaving 13 rfl) rfl rfl ?_
      refine gfM_0_41 (x_at tdX12_leaving 14 rfl) wf_X12_90 ?_
      refine x_iload (x_at tdX12_leaving 15 rfl) rfl ?_
      refine x_iald (lM_26 h) (x_at tdX12_leaving 16 rfl) H.1 ?_
      have H := H.2
      refine x_iload_n (x_at tdX12_leaving 17 rfl) rfl rfl ?_
      refine x_ic_ne 77 (x_at tdX12_leaving 18 rfl) rfl (fun c => ?_) (fun c => ?_)
      · have H := H.1 c
        refine x_weak (lv' := [(0, .ref (x_ad (gM h) 0)), (1, .int x1), (2, .int x2), (4, .int x4)]) ⟨rfl, rfl, rfl, rfl, trivial⟩ ?_
        exact H
      · have H := H.2 c
        refine x_aload_n (x_at tdX12_leaving 19 rfl) rfl rfl ?_
        refine gfM_0_43 (x_at tdX12_leaving 20 rfl) wf_X12_96 ?_
        refine x_iload (x_at tdX12_leaving 21 rfl) rfl ?_
        refine x_iald (lM_28 h) (x_at tdX12_leaving 22 rfl) H.1 ?_
        have H := H.2
        refine x_iload_n (x_at tdX12_leaving 23 rfl) rfl rfl ?_
        refine x_ic_ne 77 (x_at tdX12_leaving 24 rfl) rfl (fun c => ?_) (fun c => ?_)
        · have H := H.1 c
          refine x_weak (lv' := [(0, .ref (x_ad (gM h) 0)), (1, .int x1), (2, .int x2), (4, .int x4)]) ⟨rfl, rfl, rfl, rfl, trivial⟩ ?_
          exact H
        · have H := H.2 c
          refine x_aload_n (x_at tdX12_leaving 25 rfl) rfl rfl ?_
          refine gfM_0_48 (x_at tdX12_leaving 26 rfl) wf_X12_112 ?_
          refine x_iload (x_at tdX12_leaving 27 rfl) rfl ?_
          refine x_zald (lM_33 h) (x_at tdX12_leaving 28 rfl) H.1 ?_
          have H := H.2
          refine x_if_ne 77 (x_at tdX12_leaving 29 rfl) rfl (fun c => ?_) (fun c => ?_)
          · have H := H.1 c
            refine x_weak (lv' := [(0, .ref (x_ad (gM h) 0)), (1, .int x1), (2, .int x2), (4, .int x4)]) ⟨rfl, rfl, rfl, rfl, trivial⟩ ?_
            exact H
          · have H := H.2 c
            refine x_aload_n (x_at tdX12_leaving 30 rfl) rfl rfl ?_
            refine gfM_0_44 (x_at tdX12_leaving 31 rfl) wf_X12_99 ?_
            refine x_iload (x_at tdX12_leaving 32 rfl) rfl ?_
            refine x_iald (lM_29 h) (x_at tdX12_leaving 33 rfl) H.1 ?_
            have H := H.2
            refine x_aload_n (x_at tdX12_leaving 34 rfl) rfl rfl ?_
            refine gfM_0_67 (x_at tdX12_leaving 35 rfl) wf_X12_118 ?_
            refine x_bipush (x_at tdX12_leaving 36 rfl) k_b_20 ?_
            refine x_iald (lM_34 h) (x_at tdX12_leaving 37 rfl) vi_20_24 ?_
            refine x_top (v := (S1.1 34 20)) rfl ?_
            refine x_ic_lt 77 (x_at tdX12_leaving 38 rfl) rfl (fun c => ?_) (fun c => ?_)
            · have H := H.1 c
              refine x_weak (lv' := [(0, .ref (x_ad (gM h) 0)), (1, .int x1), (2, .int x2), (4, .int x4)]) ⟨rfl, rfl, rfl, rfl, trivial⟩ ?_
              exact H
            · have H := H.2 c
              refine x_iconst (x_at tdX12_leaving 39 rfl) k_c_1 ?_
              refine x_goto 78 (x_at tdX12_leaving 40 rfl) rfl ?_
              refine x_weak (lv' := [(0, .ref (x_ad (gM h) 0)), (1, .int x1), (2, .int x2), (4, .int x4)]) ⟨rfl, rfl, rfl, rfl, trivial⟩ ?_
              exact H
theorem b_M_leaving_77 {h : xH} {d : Nat}  {x1 : Int32} {x2 : Int32} {x4 : Int32} {s0 : Int32} {S : xSt} {K : Int32 → xSt → Prop}  (H : B_M_leaving_78 h d x1 x2 x4 0 s0 S K) : B_M_leaving_77 h d x1 x2 x4 s0 S K := by
  unfold B_M_leaving_77
  refine x_iconst (x_at tdX12_leaving 41 rfl) k_c_0 ?_
  refine x_weak (lv' := [(0, .ref (x_ad (gM h) 0)), (1, .int x1), (2, .int x2), (4, .int x4)]) ⟨rfl, rfl, rfl, rfl, trivial⟩ ?_
  exact H
theorem b_M_leaving_78 {h : xH} {d : Nat}  {x1 : Int32} {x2 : Int32} {x4 : Int32} {s0 : Int32} {s1 : Int32} {S : xSt} {K : Int32 → xSt → Prop}  (H : M_M_truth h d s0 S (fun (r1 : Int32) (S1 : xSt) => B_M_leaving_5 h d x1 x2 (s1 ||| (r1 <<< (x4 &&& 31))) (x4 + 1) S1 K)) : B_M_leaving_78 h d x1 x2 x4 s0 s1 S K := by
  unfold B_M_leaving_78
  refine x_cSi (as := [.int s0]) (rest := [.int s1]) mi_X12_truth (x_at tdX12_leaving 42 rfl) wm_X12_344 rfl (Nat.le_of_ble_eq_true rfl) rfl H (fun r1 S1 H => ?_)
  refine x_iload (x_at tdX12_leaving 43 rfl) rfl ?_
  refine x_ishl (x_at tdX12_leaving 44 rfl) ?_
  refine x_ior (x_at tdX12_leaving 45 rfl) ?_
  refine x_istore_n (x_at tdX12_leaving 46 rfl) rfl (by decide) ?_
  refine x_iinc (x_at tdX12_leaving 47 rfl) rfl (k_inc_1 _) (by decide) ?_
  refine x_goto 5 (x_at tdX12_leaving 48 rfl) rfl ?_
  refine x_weak (lv' := [(0, .ref (x_ad (gM h) 0)), (1, .int x1), (2, .int x2), (3, .int (s1 ||| (r1 <<< (x4 &&& 31)))), (4, .int (x4 + 1))]) ⟨rfl, rfl, rfl, rfl, rfl, trivial⟩ ?_
  exact H
theorem b_M_leaving_100 {h : xH} {d : Nat}  {x3 : Int32} {x4 : Int32} {S : xSt} {K : Int32 → xSt → Prop}  (H : ((x4 < 0 → K x3 S) ∧ (¬ x4 < 0 → ((¬ ((x3 >>> (x4 &&& 31)) &&& (1 : Int32)) = 1 → B_M_leaving_151 h d x3 x4 S K) ∧ (((x3 >>> (x4 &&& 31)) &&& (1 : Int32)) = 1 → (vp_in x4 10 ∧ (((S.1 31 (x4 : Int32).toNatClampNeg) < 0 → B_M_leaving_151 h d x3 x4 S K) ∧ (¬ (S.1 31 (x4 : Int32).toNatClampNeg) < 0 → (vp_in x4 10 ∧ M_M_isOn h d (S.1 31 (x4 : Int32).toNatClampNeg) S (fun (r1 : Int32) (S1 : xSt) => ((r1 = 0 → B_M_leaving_151 h d x3 x4 S1 K) ∧ (¬ r1 = 0 → (vp_in x4 10 ∧ B_M_leaving_151 h d (x3 ||| ((1 : Int32) <<< ((S1.1 31 (x4 : Int32).toNatClampNeg) &&& 31))) x4 S1 K))))))))))))) : B_M_leaving_100 h d x3 x4 S K := by
  unfold B_M_leaving_100
  refine x_iload (x_at tdX12_leaving 54 rfl) rfl ?_
  refine x_if_lt 157 (x_at tdX12_leaving 55 rfl) rfl (fun c => ?_) (fun c => ?_)
  · have H := H.1 c
    refine x_iload_n (x_at tdX12_leaving 86 rfl) rfl rfl ?_
    exact x_ireturn (ty := .int) rfl rfl (x_at tdX12_leaving 87 rfl) ⟨_, rfl, H⟩
  · have H := H.2 c
    refine x_iload_n (x_at tdX12_leaving 56 rfl) rfl rfl ?_
    refine x_iload (x_at tdX12_leaving 57 rfl) rfl ?_
    refine x_ishr (x_at tdX12_leaving 58 rfl) ?_
    refine x_iconst (x_at tdX12_leaving 59 rfl) k_c_1 ?_
    refine x_iand (x_at tdX12_leaving 60 rfl) ?_
    refine x_iconst (x_at tdX12_leaving 61 rfl) k_c_1 ?_
    refine x_ic_ne 151 (x_at tdX12_leaving 62 rfl) rfl (fun c => ?_) (fun c => ?_)
    · have H := H.1 c
      refine x_weak (lv' := [(0, .ref (x_ad (gM h) 0)), (3, .int x3), (4, .int x4)]) ⟨rfl, rfl, rfl, trivial⟩ ?_
      exact H
    · have H := H.2 c
      refine x_aload_n (x_at tdX12_leaving 63 rfl) rfl rfl ?_
      refine gfM_0_46 (x_at tdX12_leaving 64 rfl) wf_X12_105 ?_
      refine x_iload (x_at tdX12_leaving 65 rfl) rfl ?_
      refine x_iald (lM_31 h) (x_at tdX12_leaving 66 rfl) H.1 ?_
      have H := H.2
      refine x_if_lt 151 (x_at tdX12_leaving 67 rfl) rfl (fun c => ?_) (fun c => ?_)
      · have H := H.1 c
        refine x_weak (lv' := [(0, .ref (x_ad (gM h) 0)), (3, .int x3), (4, .int x4)]) ⟨rfl, rfl, rfl, trivial⟩ ?_
        exact H
      · have H := H.2 c
        refine x_aload_n (x_at tdX12_leaving 68 rfl) rfl rfl ?_
        refine x_aload_n (x_at tdX12_leaving 69 rfl) rfl rfl ?_
        refine gfM_0_46 (x_at tdX12_leaving 70 rfl) wf_X12_105 ?_
        refine x_iload (x_at tdX12_leaving 71 rfl) rfl ?_
        refine x_iald (lM_31 h) (x_at tdX12_leaving 72 rfl) H.1 ?_
        have H := H.2
        refine x_cVi (as := [.int (S.1 31 (x4 : Int32).toNatClampNeg)]) (rest := []) mi_X12_isOn vc_12 (lM_0 h) (x_at tdX12_leaving 73 rfl) wm_X12_469 rfl (Nat.le_of_ble_eq_true rfl) rfl H (fun r1 S1 H => ?_)
        refine x_if_eq 151 (x_at tdX12_leaving 74 rfl) rfl (fun c => ?_) (fun c => ?_)
        · have H := H.1 c
          refine x_weak (lv' := [(0, .ref (x_ad (gM h) 0)), (3, .int x3), (4, .int x4)]) ⟨rfl, rfl, rfl, trivial⟩ ?_
          exact H
        · have H := H.2 c
          refine x_iload_n (x_at tdX12_leaving 75 rfl) rfl rfl ?_
          refine x_iconst (x_at tdX12_leaving 76 rfl) k_c_1 ?_
          refine x_aload_n (x_at tdX12_leaving 77 rfl) rfl rfl ?_
          refine gfM_0_46 (x_at tdX12_leaving 78 rfl) wf_X12_105 ?_
          refine x_iload (x_at tdX12_leaving 79 rfl) rfl ?_
          refine x_iald (lM_31 h) (x_at tdX12_leaving 80 rfl) H.1 ?_
          have H := H.2
          refine x_ishl (x_at tdX12_leaving 81 rfl) ?_
          refine x_ior (x_at tdX12_leaving 82 rfl) ?_
          refine x_istore_n (x_at tdX12_leaving 83 rfl) rfl (by decide) ?_
          refine x_weak (lv' := [(0, .ref (x_ad (gM h) 0)), (3, .int (x3 ||| ((1 : Int32) <<< ((S1.1 31 (x4 : Int32).toNatClampNeg) &&& 31)))), (4, .int x4)]) ⟨rfl, rfl, rfl, trivial⟩ ?_
          exact H
theorem b_M_leaving_151 {h : xH} {d : Nat}  {x3 : Int32} {x4 : Int32} {S : xSt} {K : Int32 → xSt → Prop}  (H : B_M_leaving_100 h d x3 (x4 + (-1)) S K) : B_M_leaving_151 h d x3 x4 S K := by
  unfold B_M_leaving_151
  refine x_iinc (x_at tdX12_leaving 84 rfl) rfl (k_inc_m1 _) (by decide) ?_
  refine x_goto 100 (x_at tdX12_leaving 85 rfl) rfl ?_
  refine x_weak (lv' := [(0, .ref (x_ad (gM h) 0)), (3, .int x3), (4, .int (x4 + (-1)))]) ⟨rfl, rfl, rfl, trivial⟩ ?_
  exact H
theorem e_M_leave {h : xH} {d : Nat} {x1 : Int32} {x2 : Int32} {S : xSt} {K : Int32 → xSt → Prop}  (H : M_M_isMan h d x1 (x_putI S 0 85 0) (fun (r1 : Int32) (S1 : xSt) => ((r1 = 0 → K (-1) S1) ∧ (¬ r1 = 0 → M_M_isDeed h d x2 S1 (fun (r2 : Int32) (S2 : xSt) => ((¬ r2 = 0 → M_M_leaving h d x1 x2 S2 (fun (r3 : Int32) (S3 : xSt) => B_M_leave_33 h d r3 0 S3 K)) ∧ (r2 = 0 → K (-1) S2))))))) : M_M_leave h d x1 x2 S K := by
  refine x_enter pn_X12 (Nat.le_of_ble_eq_true rfl) ?_
  show X (gM h) _ _ 0 [(0, .ref (x_ad (gM h) 0)), (1, .int x1), (2, .int x2)] [] S _
  refine x_aload_n (x_at tdX12_leave 0 rfl) rfl rfl ?_
  refine x_iconst (x_at tdX12_leave 1 rfl) k_c_0 ?_
  refine pfM_0_85 (x_at tdX12_leave 2 rfl) wf_X12_450 ?_
  refine x_aload_n (x_at tdX12_leave 3 rfl) rfl rfl ?_
  refine x_iload_n (x_at tdX12_leave 4 rfl) rfl rfl ?_
  refine x_cVi (as := [.int x1]) (rest := []) mi_X12_isMan vc_12 (lM_0 h) (x_at tdX12_leave 5 rfl) wm_X12_460 rfl (Nat.le_of_ble_eq_true rfl) rfl H (fun r1 S1 H => ?_)
  refine x_if_eq 21 (x_at tdX12_leave 6 rfl) rfl (fun c => ?_) (fun c => ?_)
  · have H := H.1 c
    refine x_iconst (x_at tdX12_leave 11 rfl) k_c_m1 ?_
    exact x_ireturn (ty := .int) rfl rfl (x_at tdX12_leave 12 rfl) ⟨_, rfl, H⟩
  · have H := H.2 c
    refine x_aload_n (x_at tdX12_leave 7 rfl) rfl rfl ?_
    refine x_iload_n (x_at tdX12_leave 8 rfl) rfl rfl ?_
    refine x_cVi (as := [.int x2]) (rest := []) mi_X12_isDeed vc_12 (lM_0 h) (x_at tdX12_leave 9 rfl) wm_X12_466 rfl (Nat.le_of_ble_eq_true rfl) rfl H (fun r2 S2 H => ?_)
    refine x_if_ne 23 (x_at tdX12_leave 10 rfl) rfl (fun c => ?_) (fun c => ?_)
    · have H := H.1 c
      refine x_aload_n (x_at tdX12_leave 13 rfl) rfl rfl ?_
      refine x_iload_n (x_at tdX12_leave 14 rfl) rfl rfl ?_
      refine x_iload_n (x_at tdX12_leave 15 rfl) rfl rfl ?_
      refine x_cVi (as := [.int x1, .int x2]) (rest := []) mi_X12_leaving vc_12 (lM_0 h) (x_at tdX12_leave 16 rfl) wm_X12_543 rfl (Nat.le_of_ble_eq_true rfl) rfl H (fun r3 S3 H => ?_)
      refine x_istore_n (x_at tdX12_leave 17 rfl) rfl (by decide) ?_
      refine x_iconst (x_at tdX12_leave 18 rfl) k_c_0 ?_
      refine x_istore (x_at tdX12_leave 19 rfl) (by decide) ?_
      refine x_weak (lv' := [(0, .ref (x_ad (gM h) 0)), (3, .int r3), (4, .int 0)]) ⟨rfl, rfl, rfl, trivial⟩ ?_
      exact H
    · have H := H.2 c
      refine x_iconst (x_at tdX12_leave 11 rfl) k_c_m1 ?_
      exact x_ireturn (ty := .int) rfl rfl (x_at tdX12_leave 12 rfl) ⟨_, rfl, H⟩
theorem b_M_leave_33 {h : xH} {d : Nat}  {x3 : Int32} {x4 : Int32} {S : xSt} {K : Int32 → xSt → Prop}  (H : (((S.1 0 58) ≤ x4 → K (S.1 0 85) S) ∧ (¬ (S.1 0 58) ≤ x4 → ((¬ ((x3 >>> (x4 &&& 31)) &&& (1 : Int32)) = 0 → (vp_in (S.1 0 85) 10 ∧ B_M_leave_75 h d x3 x4 (x_putI (x_putI S 42 ((S.1 0 85) : Int32).toNatClampNeg x4) 0 85 ((S.1 0 85) + (1 : Int32))) K)) ∧ (((x3 >>> (x4 &&& 31)) &&& (1 : Int32)) = 0 → B_M_leave_75 h d x3 x4 S K))))) : B_M_leave_33 h d x3 x4 S K := by
  unfold B_M_leave_33
  refine x_iload (x_at tdX12_leave 20 rfl) rfl ?_
  refine x_aload_n (x_at tdX12_leave 21 rfl) rfl rfl ?_
  refine gfM_0_58 (x_at tdX12_leave 22 rfl) wf_X12_429 ?_
  refine x_ic_ge 81 (x_at tdX12_leave 23 rfl) rfl (fun c => ?_) (fun c => ?_)
  · have H := H.1 c
    refine x_aload_n (x_at tdX12_leave 45 rfl) rfl rfl ?_
    refine gfM_0_85 (x_at tdX12_leave 46 rfl) wf_X12_450 ?_
    exact x_ireturn (ty := .int) rfl rfl (x_at tdX12_leave 47 rfl) ⟨_, rfl, H⟩
  · have H := H.2 c
    refine x_iload_n (x_at tdX12_leave 24 rfl) rfl rfl ?_
    refine x_iload (x_at tdX12_leave 25 rfl) rfl ?_
    refine x_ishr (x_at tdX12_leave 26 rfl) ?_
    refine x_iconst (x_at tdX12_leave 27 rfl) k_c_1 ?_
    refine x_iand (x_at tdX12_leave 28 rfl) ?_
    refine x_if_ne 54 (x_at tdX12_leave 29 rfl) rfl (fun c => ?_) (fun c => ?_)
    · have H := H.1 c
      refine x_aload_n (x_at tdX12_leave 31 rfl) rfl rfl ?_
      refine gfM_0_84 (x_at tdX12_leave 32 rfl) wf_X12_142 ?_
      refine x_aload_n (x_at tdX12_leave 33 rfl) rfl rfl ?_
      refine gfM_0_85 (x_at tdX12_leave 34 rfl) wf_X12_450 ?_
      refine x_iload (x_at tdX12_leave 35 rfl) rfl ?_
      refine x_iast (lM_42 h) (x_at tdX12_leave 36 rfl) H.1 ?_
      have H := H.2
      refine x_aload_n (x_at tdX12_leave 37 rfl) rfl rfl ?_
      refine x_dup (x_at tdX12_leave 38 rfl) rfl ?_
      refine gfM_0_85 (x_at tdX12_leave 39 rfl) wf_X12_450 ?_
      refine x_top (v := (S.1 0 85)) rfl ?_
      refine x_iconst (x_at tdX12_leave 40 rfl) k_c_1 ?_
      refine x_iadd (x_at tdX12_leave 41 rfl) ?_
      refine pfM_0_85 (x_at tdX12_leave 42 rfl) wf_X12_450 ?_
      refine x_weak (lv' := [(0, .ref (x_ad (gM h) 0)), (3, .int x3), (4, .int x4)]) ⟨rfl, rfl, rfl, trivial⟩ ?_
      exact H
    · have H := H.2 c
      refine x_goto 75 (x_at tdX12_leave 30 rfl) rfl ?_
      refine x_weak (lv' := [(0, .ref (x_ad (gM h) 0)), (3, .int x3), (4, .int x4)]) ⟨rfl, rfl, rfl, trivial⟩ ?_
      exact H
theorem b_M_leave_75 {h : xH} {d : Nat}  {x3 : Int32} {x4 : Int32} {S : xSt} {K : Int32 → xSt → Prop}  (H : B_M_leave_33 h d x3 (x4 + 1) S K) : B_M_leave_75 h d x3 x4 S K := by
  unfold B_M_leave_75
  refine x_iinc (x_at tdX12_leave 43 rfl) rfl (k_inc_1 _) (by decide) ?_
  refine x_goto 33 (x_at tdX12_leave 44 rfl) rfl ?_
  refine x_weak (lv' := [(0, .ref (x_ad (gM h) 0)), (3, .int x3), (4, .int (x4 + 1))]) ⟨rfl, rfl, rfl, trivial⟩ ?_
  exact H
theorem e_M_asked_ {h : xH} {d : Nat} {x1 : Int32} {x2 : Int32} {S : xSt} {K : Int32 → xSt → Prop}  (H : M_M_isMan h d x1 S (fun (r1 : Int32) (S1 : xSt) => ((r1 = 0 → K (-1) S1) ∧ (¬ r1 = 0 → M_M_isDeed h d x2 S1 (fun (r2 : Int32) (S2 : xSt) => ((¬ r2 = 0 → M_M_leaving h d x1 x2 S2 (fun (r3 : Int32) (S3 : xSt) => B_M_asked__31 h d r3 0 0 S3 K)) ∧ (r2 = 0 → K (-1) S2))))))) : M_M_asked_ h d x1 x2 S K := by
  refine x_enter pn_X12 (Nat.le_of_ble_eq_true rfl) ?_
  show X (gM h) _ _ 0 [(0, .ref (x_ad (gM h) 0)), (1, .int x1), (2, .int x2)] [] S _
  refine x_aload_n (x_at tdX12_asked_ 0 rfl) rfl rfl ?_
  refine x_iload_n (x_at tdX12_asked_ 1 rfl) rfl rfl ?_
  refine x_cVi (as := [.int x1]) (rest := []) mi_X12_isMan vc_12 (lM_0 h) (x_at tdX12_asked_ 2 rfl) wm_X12_460 rfl (Nat.le_of_ble_eq_true rfl) rfl H (fun r1 S1 H => ?_)
  refine x_if_eq 16 (x_at tdX12_asked_ 3 rfl) rfl (fun c => ?_) (fun c => ?_)
  · have H := H.1 c
    refine x_iconst (x_at tdX12_asked_ 8 rfl) k_c_m1 ?_
    exact x_ireturn (ty := .int) rfl rfl (x_at tdX12_asked_ 9 rfl) ⟨_, rfl, H⟩
  · have H := H.2 c
    refine x_aload_n (x_at tdX12_asked_ 4 rfl) rfl rfl ?_
    refine x_iload_n (x_at tdX12_asked_ 5 rfl) rfl rfl ?_
    refine x_cVi (as := [.int x2]) (rest := []) mi_X12_isDeed vc_12 (lM_0 h) (x_at tdX12_asked_ 6 rfl) wm_X12_466 rfl (Nat.le_of_ble_eq_true rfl) rfl H (fun r2 S2 H => ?_)
    refine x_if_ne 18 (x_at tdX12_asked_ 7 rfl) rfl (fun c => ?_) (fun c => ?_)
    · have H := H.1 c
      refine x_aload_n (x_at tdX12_asked_ 10 rfl) rfl rfl ?_
      refine x_iload_n (x_at tdX12_asked_ 11 rfl) rfl rfl ?_
      refine x_iload_n (x_at tdX12_asked_ 12 rfl) rfl rfl ?_
      refine x_cVi (as := [.int x1, .int x2]) (rest := []) mi_X12_leaving vc_12 (lM_0 h) (x_at tdX12_asked_ 13 rfl) wm_X12_543 rfl (Nat.le_of_ble_eq_true rfl) rfl H (fun r3 S3 H => ?_)
      refine x_istore_n (x_at tdX12_asked_ 14 rfl) rfl (by decide) ?_
      refine x_iconst (x_at tdX12_asked_ 15 rfl) k_c_0 ?_
      refine x_istore (x_at tdX12_asked_ 16 rfl) (by decide) ?_
      refine x_iconst (x_at tdX12_asked_ 17 rfl) k_c_0 ?_
      refine x_istore (x_at tdX12_asked_ 18 rfl) (by decide) ?_
      refine x_weak (lv' := [(0, .ref (x_ad (gM h) 0)), (3, .int r3), (4, .int 0), (5, .int 0)]) ⟨rfl, rfl, rfl, rfl, trivial⟩ ?_
      exact H
    · have H := H.2 c
      refine x_iconst (x_at tdX12_asked_ 8 rfl) k_c_m1 ?_
      exact x_ireturn (ty := .int) rfl rfl (x_at tdX12_asked_ 9 rfl) ⟨_, rfl, H⟩
theorem b_M_asked__31 {h : xH} {d : Nat}  {x3 : Int32} {x4 : Int32} {x5 : Int32} {S : xSt} {K : Int32 → xSt → Prop}  (H : (((S.1 0 58) ≤ x5 → K x4 S) ∧ (¬ (S.1 0 58) ≤ x5 → ((¬ ((x3 >>> (x5 &&& 31)) &&& (1 : Int32)) = 1 → B_M_asked__64 h d x3 x4 x5 S K) ∧ (((x3 >>> (x5 &&& 31)) &&& (1 : Int32)) = 1 → (vp_in x5 10 ∧ B_M_asked__64 h d x3 (x4 ||| ((1 : Int32) <<< ((S.1 27 (x5 : Int32).toNatClampNeg) &&& 31))) x5 S K)))))) : B_M_asked__31 h d x3 x4 x5 S K := by
  unfold B_M_asked__31
  refine x_iload (x_at tdX12_asked_ 19 rfl) rfl ?_
  refine x_aload_n (x_at tdX12_asked_ 20 rfl) rfl rfl ?_
  refine gfM_0_58 (x_at tdX12_asked_ 21 rfl) wf_X12_429 ?_
  refine x_ic_ge 70 (x_at tdX12_asked_ 22 rfl) rfl (fun c => ?_) (fun c => ?_)
  · have H := H.1 c
    refine x_iload (x_at tdX12_asked_ 41 rfl) rfl ?_
    exact x_ireturn (ty := .int) rfl rfl (x_at tdX12_asked_ 42 rfl) ⟨_, rfl, H⟩
  · have H := H.2 c
    refine x_iload_n (x_at tdX12_asked_ 23 rfl) rfl rfl ?_
    refine x_iload (x_at tdX12_asked_ 24 rfl) rfl ?_
    refine x_ishr (x_at tdX12_asked_ 25 rfl) ?_
    refine x_iconst (x_at tdX12_asked_ 26 rfl) k_c_1 ?_
    refine x_iand (x_at tdX12_asked_ 27 rfl) ?_
    refine x_iconst (x_at tdX12_asked_ 28 rfl) k_c_1 ?_
    refine x_ic_ne 64 (x_at tdX12_asked_ 29 rfl) rfl (fun c => ?_) (fun c => ?_)
    · have H := H.1 c
      refine x_weak (lv' := [(0, .ref (x_ad (gM h) 0)), (3, .int x3), (4, .int x4), (5, .int x5)]) ⟨rfl, rfl, rfl, rfl, trivial⟩ ?_
      exact H
    · have H := H.2 c
      refine x_iload (x_at tdX12_asked_ 30 rfl) rfl ?_
      refine x_iconst (x_at tdX12_asked_ 31 rfl) k_c_1 ?_
      refine x_aload_n (x_at tdX12_asked_ 32 rfl) rfl rfl ?_
      refine gfM_0_42 (x_at tdX12_asked_ 33 rfl) wf_X12_93 ?_
      refine x_iload (x_at tdX12_asked_ 34 rfl) rfl ?_
      refine x_iald (lM_27 h) (x_at tdX12_asked_ 35 rfl) H.1 ?_
      have H := H.2
      refine x_ishl (x_at tdX12_asked_ 36 rfl) ?_
      refine x_ior (x_at tdX12_asked_ 37 rfl) ?_
      refine x_istore (x_at tdX12_asked_ 38 rfl) (by decide) ?_
      refine x_weak (lv' := [(0, .ref (x_ad (gM h) 0)), (3, .int x3), (4, .int (x4 ||| ((1 : Int32) <<< ((S.1 27 (x5 : Int32).toNatClampNeg) &&& 31)))), (5, .int x5)]) ⟨rfl, rfl, rfl, rfl, trivial⟩ ?_
      exact H
theorem b_M_asked__64 {h : xH} {d : Nat}  {x3 : Int32} {x4 : Int32} {x5 : Int32} {S : xSt} {K : Int32 → xSt → Prop}  (H : B_M_asked__31 h d x3 x4 (x5 + 1) S K) : B_M_asked__64 h d x3 x4 x5 S K := by
  unfold B_M_asked__64
  refine x_iinc (x_at tdX12_asked_ 39 rfl) rfl (k_inc_1 _) (by decide) ?_
  refine x_goto 31 (x_at tdX12_asked_ 40 rfl) rfl ?_
  refine x_weak (lv' := [(0, .ref (x_ad (gM h) 0)), (3, .int x3), (4, .int x4), (5, .int (x5 + 1))]) ⟨rfl, rfl, rfl, rfl, trivial⟩ ?_
  exact H
theorem e_M_threadSame {h : xH} {d : Nat} {x1 : Int32} {x2 : Int32} {x3 : Int32} {S : xSt} {K : Int32 → xSt → Prop}  (H : (vp_in ((10 : Int32) + x1) 24 ∧ B_M_threadSame_14 h d x1 x2 x3 (S.1 34 (((10 : Int32) + x1) : Int32).toNatClampNeg) 0 S K)) : M_M_threadSame h d x1 x2 x3 S K := by
  refine x_enter pn_X12 (Nat.le_of_ble_eq_true rfl) ?_
  show X (gM h) _ _ 0 [(0, .ref (x_ad (gM h) 0)), (1, .int x1), (2, .int x2), (3, .int x3)] [] S _
  refine x_aload_n (x_at tdX12_threadSame 0 rfl) rfl rfl ?_
  refine gfM_0_67 (x_at tdX12_threadSame 1 rfl) wf_X12_118 ?_
  refine x_bipush (x_at tdX12_threadSame 2 rfl) k_b_10 ?_
  refine x_iload_n (x_at tdX12_threadSame 3 rfl) rfl rfl ?_
  refine x_iadd (x_at tdX12_threadSame 4 rfl) ?_
  refine x_iald (lM_34 h) (x_at tdX12_threadSame 5 rfl) H.1 ?_
  have H := H.2
  refine x_istore (x_at tdX12_threadSame 6 rfl) (by decide) ?_
  refine x_iconst (x_at tdX12_threadSame 7 rfl) k_c_0 ?_
  refine x_istore (x_at tdX12_threadSame 8 rfl) (by decide) ?_
  refine x_weak (lv' := [(0, .ref (x_ad (gM h) 0)), (1, .int x1), (2, .int x2), (3, .int x3), (4, .int (S.1 34 (((10 : Int32) + x1) : Int32).toNatClampNeg)), (5, .int 0)]) ⟨rfl, rfl, rfl, rfl, rfl, rfl, trivial⟩ ?_
  exact H
theorem b_M_threadSame_14 {h : xH} {d : Nat}  {x1 : Int32} {x2 : Int32} {x3 : Int32} {x4 : Int32} {x5 : Int32} {S : xSt} {K : Int32 → xSt → Prop}  (H : ((x2 ≤ x5 → K x4 S) ∧ (¬ x2 ≤ x5 → ((x4 ≤ 0 → K x4 S) ∧ (¬ x4 ≤ 0 → (vp_in x1 10 ∧ (vp_in (S.1 27 (x1 : Int32).toNatClampNeg) 6 ∧ M_M_wearOf h d x4 (S.1 16 ((S.1 27 (x1 : Int32).toNatClampNeg) : Int32).toNatClampNeg) x3 ((S.1 34 20) + x5) S (fun (r1 : Int32) (S1 : xSt) => B_M_threadSame_14 h d x1 x2 x3 (x4 - r1) (x5 + 1) S1 K)))))))) : B_M_threadSame_14 h d x1 x2 x3 x4 x5 S K := by
  unfold B_M_threadSame_14
  refine x_iload (x_at tdX12_threadSame 9 rfl) rfl ?_
  refine x_iload_n (x_at tdX12_threadSame 10 rfl) rfl rfl ?_
  refine x_ic_ge 64 (x_at tdX12_threadSame 11 rfl) rfl (fun c => ?_) (fun c => ?_)
  · have H := H.1 c
    refine x_iload (x_at tdX12_threadSame 36 rfl) rfl ?_
    exact x_ireturn (ty := .int) rfl rfl (x_at tdX12_threadSame 37 rfl) ⟨_, rfl, H⟩
  · have H := H.2 c
    refine x_iload (x_at tdX12_threadSame 12 rfl) rfl ?_
    refine x_if_le 64 (x_at tdX12_threadSame 13 rfl) rfl (fun c => ?_) (fun c => ?_)
    · have H := H.1 c
      refine x_iload (x_at tdX12_threadSame 36 rfl) rfl ?_
      exact x_ireturn (ty := .int) rfl rfl (x_at tdX12_threadSame 37 rfl) ⟨_, rfl, H⟩
    · have H := H.2 c
      refine x_iload (x_at tdX12_threadSame 14 rfl) rfl ?_
      refine x_aload_n (x_at tdX12_threadSame 15 rfl) rfl rfl ?_
      refine x_iload (x_at tdX12_threadSame 16 rfl) rfl ?_
      refine x_aload_n (x_at tdX12_threadSame 17 rfl) rfl rfl ?_
      refine gfM_0_31 (x_at tdX12_threadSame 18 rfl) wf_X12_60 ?_
      refine x_aload_n (x_at tdX12_threadSame 19 rfl) rfl rfl ?_
      refine gfM_0_42 (x_at tdX12_threadSame 20 rfl) wf_X12_93 ?_
      refine x_iload_n (x_at tdX12_threadSame 21 rfl) rfl rfl ?_
      refine x_iald (lM_27 h) (x_at tdX12_threadSame 22 rfl) H.1 ?_
      have H := H.2
      refine x_iald (lM_16 h) (x_at tdX12_threadSame 23 rfl) H.1 ?_
      have H := H.2
      refine x_iload_n (x_at tdX12_threadSame 24 rfl) rfl rfl ?_
      refine x_aload_n (x_at tdX12_threadSame 25 rfl) rfl rfl ?_
      refine gfM_0_67 (x_at tdX12_threadSame 26 rfl) wf_X12_118 ?_
      refine x_bipush (x_at tdX12_threadSame 27 rfl) k_b_20 ?_
      refine x_iald (lM_34 h) (x_at tdX12_threadSame 28 rfl) vi_20_24 ?_
      refine x_top (v := (S.1 34 20)) rfl ?_
      refine x_iload (x_at tdX12_threadSame 29 rfl) rfl ?_
      refine x_iadd (x_at tdX12_threadSame 30 rfl) ?_
      refine x_cVi (as := [.int x4, .int (S.1 16 ((S.1 27 (x1 : Int32).toNatClampNeg) : Int32).toNatClampNeg), .int x3, .int ((S.1 34 20) + x5)]) (rest := [.int x4]) mi_X12_wearOf vc_12 (lM_0 h) (x_at tdX12_threadSame 31 rfl) wm_X12_481 rfl (Nat.le_of_ble_eq_true rfl) rfl H (fun r1 S1 H => ?_)
      refine x_isub (x_at tdX12_threadSame 32 rfl) ?_
      refine x_istore (x_at tdX12_threadSame 33 rfl) (by decide) ?_
      refine x_iinc (x_at tdX12_threadSame 34 rfl) rfl (k_inc_1 _) (by decide) ?_
      refine x_goto 14 (x_at tdX12_threadSame 35 rfl) rfl ?_
      refine x_weak (lv' := [(0, .ref (x_ad (gM h) 0)), (1, .int x1), (2, .int x2), (3, .int x3), (4, .int (x4 - r1)), (5, .int (x5 + 1))]) ⟨rfl, rfl, rfl, rfl, rfl, rfl, trivial⟩ ?_
      exact H
theorem e_M_holds {h : xH} {d : Nat} {x1 : Int32} {x2 : Int32} {x3 : Int32} {S : xSt} {K : Int32 → xSt → Prop}  (H : M_M_isButton h (d + 2) x1 S (fun (r1 : Int32) (S1 : xSt) => ((r1 = 0 → K (-1) S1) ∧ (¬ r1 = 0 → M_M_isOn h (d + 3) x1 S1 (fun (r2 : Int32) (S2 : xSt) => ((r2 = 0 → K (-1) S2) ∧ (¬ r2 = 0 → M_M_isIn h (d + 3) x2 0 60 S2 (fun (r3 : Int32) (S3 : xSt) => ((r3 = 0 → K (-1) S3) ∧ (¬ r3 = 0 → M_M_isIn h (d + 3) x3 0 1 S3 (fun (r4 : Int32) (S4 : xSt) => ((¬ r4 = 0 → M_M_threadSame h d x1 x2 x3 S4 (fun (r5 : Int32) (S5 : xSt) => K r5 S5)) ∧ (r4 = 0 → K (-1) S4))))))))))))) : M_M_holds h d x1 x2 x3 S K := by
  refine x_enter pn_X12 (Nat.le_of_ble_eq_true rfl) ?_
  show X (gM h) _ _ 0 [(0, .ref (x_ad (gM h) 0)), (1, .int x1), (2, .int x2), (3, .int x3)] [] S _
  refine x_aload_n (x_at tdX12_holds 0 rfl) rfl rfl ?_
  refine x_iload_n (x_at tdX12_holds 1 rfl) rfl rfl ?_
  refine x_cVi (as := [.int x1]) (rest := []) mi_X12_isButton vc_12 (lM_0 h) (x_at tdX12_holds 2 rfl) wm_X12_457 rfl (Nat.le_of_ble_eq_true rfl) rfl H (fun r1 S1 H => ?_)
  refine x_if_eq 35 (x_at tdX12_holds 3 rfl) rfl (fun c => ?_) (fun c => ?_)
  · have H := H.1 c
    refine x_iconst (x_at tdX12_holds 18 rfl) k_c_m1 ?_
    refine x_goto 46 (x_at tdX12_holds 19 rfl) rfl ?_
    exact x_ireturn (ty := .int) rfl rfl (x_at tdX12_holds 25 rfl) ⟨_, rfl, H⟩
  · have H := H.2 c
    refine x_aload_n (x_at tdX12_holds 4 rfl) rfl rfl ?_
    refine x_iload_n (x_at tdX12_holds 5 rfl) rfl rfl ?_
    refine x_cVi (as := [.int x1]) (rest := []) mi_X12_isOn vc_12 (lM_0 h) (x_at tdX12_holds 6 rfl) wm_X12_469 rfl (Nat.le_of_ble_eq_true rfl) rfl H (fun r2 S2 H => ?_)
    refine x_if_eq 35 (x_at tdX12_holds 7 rfl) rfl (fun c => ?_) (fun c => ?_)
    · have H := H.1 c
      refine x_iconst (x_at tdX12_holds 18 rfl) k_c_m1 ?_
      refine x_goto 46 (x_at tdX12_holds 19 rfl) rfl ?_
      exact x_ireturn (ty := .int) rfl rfl (x_at tdX12_holds 25 rfl) ⟨_, rfl, H⟩
    · have H := H.2 c
      refine x_iload_n (x_at tdX12_holds 8 rfl) rfl rfl ?_
      refine x_iconst (x_at tdX12_holds 9 rfl) k_c_0 ?_
      refine x_bipush (x_at tdX12_holds 10 rfl) k_b_60 ?_
      refine x_cSi (as := [.int x2, .int 0, .int 60]) (rest := []) mi_X12_isIn (x_at tdX12_holds 11 rfl) wm_X12_453 rfl (Nat.le_of_ble_eq_true rfl) rfl H (fun r3 S3 H => ?_)
      refine x_if_eq 35 (x_at tdX12_holds 12 rfl) rfl (fun c => ?_) (fun c => ?_)
      · have H := H.1 c
        refine x_iconst (x_at tdX12_holds 18 rfl) k_c_m1 ?_
        refine x_goto 46 (x_at tdX12_holds 19 rfl) rfl ?_
        exact x_ireturn (ty := .int) rfl rfl (x_at tdX12_holds 25 rfl) ⟨_, rfl, H⟩
      · have H := H.2 c
        refine x_iload_n (x_at tdX12_holds 13 rfl) rfl rfl ?_
        refine x_iconst (x_at tdX12_holds 14 rfl) k_c_0 ?_
        refine x_iconst (x_at tdX12_holds 15 rfl) k_c_1 ?_
        refine x_cSi (as := [.int x3, .int 0, .int 1]) (rest := []) mi_X12_isIn (x_at tdX12_holds 16 rfl) wm_X12_453 rfl (Nat.le_of_ble_eq_true rfl) rfl H (fun r4 S4 H => ?_)
        refine x_if_ne 39 (x_at tdX12_holds 17 rfl) rfl (fun c => ?_) (fun c => ?_)
        · have H := H.1 c
          refine x_aload_n (x_at tdX12_holds 20 rfl) rfl rfl ?_
          refine x_iload_n (x_at tdX12_holds 21 rfl) rfl rfl ?_
          refine x_iload_n (x_at tdX12_holds 22 rfl) rfl rfl ?_
          refine x_iload_n (x_at tdX12_holds 23 rfl) rfl rfl ?_
          refine x_cVi (as := [.int x1, .int x2, .int x3]) (rest := []) mi_X12_threadSame vc_12 (lM_0 h) (x_at tdX12_holds 24 rfl) wm_X12_546 rfl (Nat.le_of_ble_eq_true rfl) rfl H (fun r5 S5 H => ?_)
          exact x_ireturn (ty := .int) rfl rfl (x_at tdX12_holds 25 rfl) ⟨_, rfl, H⟩
        · have H := H.2 c
          refine x_iconst (x_at tdX12_holds 18 rfl) k_c_m1 ?_
          refine x_goto 46 (x_at tdX12_holds 19 rfl) rfl ?_
          exact x_ireturn (ty := .int) rfl rfl (x_at tdX12_holds 25 rfl) ⟨_, rfl, H⟩
theorem e_M_common {h : xH} {d : Nat} {x0 : Int64} {x2 : Int64} {S : xSt} {K : Int64 → xSt → Prop}  (H : B_M_common_6 h d x0 x2 S K) : M_M_common h d x0 x2 S K := by
  refine x_enter pn_X12 (Nat.le_of_ble_eq_true rfl) ?_
  show X (gM h) _ _ 0 [(0, .long x0), (2, .long x2)] [] S _
  refine x_lload_n (x_at tdX12_common 0 rfl) rfl rfl ?_
  refine x_lstore (x_at tdX12_common 1 rfl) (by decide) ?_
  refine x_lload_n (x_at tdX12_common 2 rfl) rfl rfl ?_
  refine x_lstore (x_at tdX12_common 3 rfl) (by decide) ?_
  refine x_weak (lv' := [(4, .long x0), (6, .long x2)]) ⟨rfl, rfl, trivial⟩ ?_
  exact H
theorem b_M_common_6 {h : xH} {d : Nat}  {x4 : Int64} {x6 : Int64} {S : xSt} {K : Int64 → xSt → Prop}  (H : ((x6 ≤ 0 → K x4 S) ∧ (¬ x6 ≤ 0 → (¬ x6 = 0 ∧ B_M_common_6 h d x6 (x4 - x4 / x6 * x6) S K)))) : B_M_common_6 h d x4 x6 S K := by
  unfold B_M_common_6
  refine x_lload (x_at tdX12_common 4 rfl) rfl ?_
  refine x_lconst (v := 0) (x_at tdX12_common 5 rfl) rfl ?_
  refine x_lc_le 31 (x_at tdX12_common 6 rfl) (x_at tdX12_common 7 rfl) rfl (fun c => ?_) (fun c => ?_)
  · have H := H.1 c
    refine x_lload (x_at tdX12_common 17 rfl) rfl ?_
    exact x_lreturn rfl (x_at tdX12_common 18 rfl) ⟨_, rfl, H⟩
  · have H := H.2 c
    refine x_lload (x_at tdX12_common 8 rfl) rfl ?_
    refine x_lload (x_at tdX12_common 9 rfl) rfl ?_
    refine x_lrem (x_at tdX12_common 10 rfl) H.1 ?_
    have H := H.2
    refine x_lstore (x_at tdX12_common 11 rfl) (by decide) ?_
    refine x_lload (x_at tdX12_common 12 rfl) rfl ?_
    refine x_lstore (x_at tdX12_common 13 rfl) (by decide) ?_
    refine x_lload (x_at tdX12_common 14 rfl) rfl ?_
    refine x_lstore (x_at tdX12_common 15 rfl) (by decide) ?_
    refine x_goto 6 (x_at tdX12_common 16 rfl) rfl ?_
    refine x_weak (lv' := [(4, .long x6), (6, .long (x4 - x4 / x6 * x6))]) ⟨rfl, rfl, trivial⟩ ?_
    exact H
theorem e_M_threadBy {h : xH} {d : Nat} {x1 : Int32} {x2 : Int32} {x3 : Int32} {S : xSt} {K : Int32 → xSt → Prop}  (H : (vp_in ((10 : Int32) + x1) 24 ∧ B_M_threadBy_14 h d x1 x2 x3 (S.1 34 (((10 : Int32) + x1) : Int32).toNatClampNeg) 0 S K)) : M_M_threadBy h d x1 x2 x3 S K := by
  refine x_enter pn_X12 (Nat.le_of_ble_eq_true rfl) ?_
  show X (gM h) _ _ 0 [(0, .ref (x_ad (gM h) 0)), (1, .int x1), (2, .int x2), (3, .int x3)] [] S _
  refine x_aload_n (x_at tdX12_threadBy 0 rfl) rfl rfl ?_
  refine gfM_0_67 (x_at tdX12_threadBy 1 rfl) wf_X12_118 ?_
  refine x_bipush (x_at tdX12_threadBy 2 rfl) k_b_10 ?_
  refine x_iload_n (x_at tdX12_threadBy 3 rfl) rfl rfl ?_
  refine x_iadd (x_at tdX12_threadBy 4 rfl) ?_
  refine x_iald (lM_34 h) (x_at tdX12_threadBy 5 rfl) H.1 ?_
  have H := H.2
  refine x_istore (x_at tdX12_threadBy 6 rfl) (by decide) ?_
  refine x_iconst (x_at tdX12_threadBy 7 rfl) k_c_0 ?_
  refine x_istore (x_at tdX12_threadBy 8 rfl) (by decide) ?_
  refine x_weak (lv' := [(0, .ref (x_ad (gM h) 0)), (1, .int x1), (2, .int x2), (3, .int x3), (4, .int (S.1 34 (((10 : Int32) + x1) : Int32).toNatClampNeg)), (5, .int 0)]) ⟨rfl, rfl, rfl, rfl, rfl, rfl, trivial⟩ ?_
  exact H
theorem b_M_threadBy_14 {h : xH} {d : Nat}  {x1 : Int32} {x2 : Int32} {x3 : Int32} {x4 : Int32} {x5 : Int32} {S : xSt} {K : Int32 → xSt → Prop}  (H : ((x2 ≤ x5 → K x4 S) ∧ (¬ x2 ≤ x5 → ((x4 ≤ 0 → K x4 S) ∧ (¬ x4 ≤ 0 → (vp_in x1 10 ∧ (vp_in (S.1 27 (x1 : Int32).toNatClampNeg) 6 ∧ M_M_wearOf h d x4 (S.1 16 ((S.1 27 (x1 : Int32).toNatClampNeg) : Int32).toNatClampNeg) ((x3 >>> (x5 &&& 31)) &&& (1 : Int32)) ((S.1 34 20) + x5) S (fun (r1 : Int32) (S1 : xSt) => B_M_threadBy_14 h d x1 x2 x3 (x4 - r1) (x5 + 1) S1 K)))))))) : B_M_threadBy_14 h d x1 x2 x3 x4 x5 S K := by
  unfold B_M_threadBy_14
  refine x_iload (x_at tdX12_threadBy 9 rfl) rfl ?_
  refine x_iload_n (x_at tdX12_threadBy 10 rfl) rfl rfl ?_
  refine x_ic_ge 69 (x_at tdX12_threadBy 11 rfl) rfl (fun c => ?_) (fun c => ?_)
  · have H := H.1 c
    refine x_iload (x_at tdX12_threadBy 40 rfl) rfl ?_
    exact x_ireturn (ty := .int) rfl rfl (x_at tdX12_threadBy 41 rfl) ⟨_, rfl, H⟩
  · have H := H.2 c
    refine x_iload (x_at tdX12_threadBy 12 rfl) rfl ?_
    refine x_if_le 69 (x_at tdX12_threadBy 13 rfl) rfl (fun c => ?_) (fun c => ?_)
    · have H := H.1 c
      refine x_iload (x_at tdX12_threadBy 40 rfl) rfl ?_
      exact x_ireturn (ty := .int) rfl rfl (x_at tdX12_threadBy 41 rfl) ⟨_, rfl, H⟩
    · have H := H.2 c
      refine x_iload (x_at tdX12_threadBy 14 rfl) rfl ?_
      refine x_aload_n (x_at tdX12_threadBy 15 rfl) rfl rfl ?_
      refine x_iload (x_at tdX12_threadBy 16 rfl) rfl ?_
      refine x_aload_n (x_at tdX12_threadBy 17 rfl) rfl rfl ?_
      refine gfM_0_31 (x_at tdX12_threadBy 18 rfl) wf_X12_60 ?_
      refine x_aload_n (x_at tdX12_threadBy 19 rfl) rfl rfl ?_
      refine gfM_0_42 (x_at tdX12_threadBy 20 rfl) wf_X12_93 ?_
      refine x_iload_n (x_at tdX12_threadBy 21 rfl) rfl rfl ?_
      refine x_iald (lM_27 h) (x_at tdX12_threadBy 22 rfl) H.1 ?_
      have H := H.2
      refine x_iald (lM_16 h) (x_at tdX12_threadBy 23 rfl) H.1 ?_
      have H := H.2
      refine x_iload_n (x_at tdX12_threadBy 24 rfl) rfl rfl ?_
      refine x_iload (x_at tdX12_threadBy 25 rfl) rfl ?_
      refine x_ishr (x_at tdX12_threadBy 26 rfl) ?_
      refine x_iconst (x_at tdX12_threadBy 27 rfl) k_c_1 ?_
      refine x_iand (x_at tdX12_threadBy 28 rfl) ?_
      refine x_aload_n (x_at tdX12_threadBy 29 rfl) rfl rfl ?_
      refine gfM_0_67 (x_at tdX12_threadBy 30 rfl) wf_X12_118 ?_
      refine x_bipush (x_at tdX12_threadBy 31 rfl) k_b_20 ?_
      refine x_iald (lM_34 h) (x_at tdX12_threadBy 32 rfl) vi_20_24 ?_
      refine x_top (v := (S.1 34 20)) rfl ?_
      refine x_iload (x_at tdX12_threadBy 33 rfl) rfl ?_
      refine x_iadd (x_at tdX12_threadBy 34 rfl) ?_
      refine x_cVi (as := [.int x4, .int (S.1 16 ((S.1 27 (x1 : Int32).toNatClampNeg) : Int32).toNatClampNeg), .int ((x3 >>> (x5 &&& 31)) &&& (1 : Int32)), .int ((S.1 34 20) + x5)]) (rest := [.int x4]) mi_X12_wearOf vc_12 (lM_0 h) (x_at tdX12_threadBy 35 rfl) wm_X12_481 rfl (Nat.le_of_ble_eq_true rfl) rfl H (fun r1 S1 H => ?_)
      refine x_isub (x_at tdX12_threadBy 36 rfl) ?_
      refine x_istore (x_at tdX12_threadBy 37 rfl) (by decide) ?_
      refine x_iinc (x_at tdX12_threadBy 38 rfl) rfl (k_inc_1 _) (by decide) ?_
      refine x_goto 14 (x_at tdX12_threadBy 39 rfl) rfl ?_
      refine x_weak (lv' := [(0, .ref (x_ad (gM h) 0)), (1, .int x1), (2, .int x2), (3, .int x3), (4, .int (x4 - r1)), (5, .int (x5 + 1))]) ⟨rfl, rfl, rfl, rfl, rfl, rfl, trivial⟩ ?_
      exact H
theorem e_M_odds {h : xH} {d : Nat} {x1 : Int32} {x2 : Int32} {x3 : Int32} {S : xSt} {K : Int64 → xSt → Prop}  (H : M_M_isButton h (d + 2) x1 S (fun (r1 : Int32) (S1 : xSt) => ((r1 = 0 → K (-1) S1) ∧ (¬ r1 = 0 → M_M_isOn h (d + 3) x1 S1 (fun (r2 : Int32) (S2 : xSt) => ((r2 = 0 → K (-1) S2) ∧ (¬ r2 = 0 → M_M_isIn h (d + 3) x2 0 6 S2 (fun (r3 : Int32) (S3 : xSt) => ((r3 = 0 → K (-1) S3) ∧ (¬ r3 = 0 → M_M_isIn h (d + 3) x3 0 1 S3 (fun (r4 : Int32) (S4 : xSt) => ((¬ r4 = 0 → B_M_odds_48 h d x1 x2 x3 0 1 0 S4 K) ∧ (r4 = 0 → K (-1) S4))))))))))))) : M_M_odds h d x1 x2 x3 S K := by
  refine x_enter pn_X12 (Nat.le_of_ble_eq_true rfl) ?_
  show X (gM h) _ _ 0 [(0, .ref (x_ad (gM h) 0)), (1, .int x1), (2, .int x2), (3, .int x3)] [] S _
  refine x_aload_n (x_at tdX12_odds 0 rfl) rfl rfl ?_
  refine x_iload_n (x_at tdX12_odds 1 rfl) rfl rfl ?_
  refine x_cVi (as := [.int x1]) (rest := []) mi_X12_isButton vc_12 (lM_0 h) (x_at tdX12_odds 2 rfl) wm_X12_457 rfl (Nat.le_of_ble_eq_true rfl) rfl H (fun r1 S1 H => ?_)
  refine x_if_eq 35 (x_at tdX12_odds 3 rfl) rfl (fun c => ?_) (fun c => ?_)
  · have H := H.1 c
    refine x_ldc2 (x_at tdX12_odds 18 rfl) wk_X12_549 ?_
    exact x_lreturn rfl (x_at tdX12_odds 19 rfl) ⟨_, rfl, H⟩
  · have H := H.2 c
    refine x_aload_n (x_at tdX12_odds 4 rfl) rfl rfl ?_
    refine x_iload_n (x_at tdX12_odds 5 rfl) rfl rfl ?_
    refine x_cVi (as := [.int x1]) (rest := []) mi_X12_isOn vc_12 (lM_0 h) (x_at tdX12_odds 6 rfl) wm_X12_469 rfl (Nat.le_of_ble_eq_true rfl) rfl H (fun r2 S2 H => ?_)
    refine x_if_eq 35 (x_at tdX12_odds 7 rfl) rfl (fun c => ?_) (fun c => ?_)
    · have H := H.1 c
      refine x_ldc2 (x_at tdX12_odds 18 rfl) wk_X12_549 ?_
      exact x_lreturn rfl (x_at tdX12_odds 19 rfl) ⟨_, rfl, H⟩
    · have H := H.2 c
      refine x_iload_n (x_at tdX12_odds 8 rfl) rfl rfl ?_
      refine x_iconst (x_at tdX12_odds 9 rfl) k_c_0 ?_
      refine x_bipush (x_at tdX12_odds 10 rfl) k_b_6 ?_
      refine x_cSi (as := [.int x2, .int 0, .int 6]) (rest := []) mi_X12_isIn (x_at tdX12_odds 11 rfl) wm_X12_453 rfl (Nat.le_of_ble_eq_true rfl) rfl H (fun r3 S3 H => ?_)
      refine x_if_eq 35 (x_at tdX12_odds 12 rfl) rfl (fun c => ?_) (fun c => ?_)
      · have H := H.1 c
        refine x_ldc2 (x_at tdX12_odds 18 rfl) wk_X12_549 ?_
        exact x_lreturn rfl (x_at tdX12_odds 19 rfl) ⟨_, rfl, H⟩
      · have H := H.2 c
        refine x_iload_n (x_at tdX12_odds 13 rfl) rfl rfl ?_
        refine x_iconst (x_at tdX12_odds 14 rfl) k_c_0 ?_
        refine x_iconst (x_at tdX12_odds 15 rfl) k_c_1 ?_
        refine x_cSi (as := [.int x3, .int 0, .int 1]) (rest := []) mi_X12_isIn (x_at tdX12_odds 16 rfl) wm_X12_453 rfl (Nat.le_of_ble_eq_true rfl) rfl H (fun r4 S4 H => ?_)
        refine x_if_ne 39 (x_at tdX12_odds 17 rfl) rfl (fun c => ?_) (fun c => ?_)
        · have H := H.1 c
          refine x_lconst (v := 0) (x_at tdX12_odds 20 rfl) rfl ?_
          refine x_lstore (x_at tdX12_odds 21 rfl) (by decide) ?_
          refine x_lconst (v := 1) (x_at tdX12_odds 22 rfl) rfl ?_
          refine x_lstore (x_at tdX12_odds 23 rfl) (by decide) ?_
          refine x_iconst (x_at tdX12_odds 24 rfl) k_c_0 ?_
          refine x_istore (x_at tdX12_odds 25 rfl) (by decide) ?_
          refine x_weak (lv' := [(0, .ref (x_ad (gM h) 0)), (1, .int x1), (2, .int x2), (3, .int x3), (4, .long 0), (6, .long 1), (8, .int 0)]) ⟨rfl, rfl, rfl, rfl, rfl, rfl, rfl, trivial⟩ ?_
          exact H
        · have H := H.2 c
          refine x_ldc2 (x_at tdX12_odds 18 rfl) wk_X12_549 ?_
          exact x_lreturn rfl (x_at tdX12_odds 19 rfl) ⟨_, rfl, H⟩
theorem b_M_odds_48 {h : xH} {d : Nat}  {x1 : Int32} {x2 : Int32} {x3 : Int32} {x4 : Int64} {x6 : Int64} {x8 : Int32} {S : xSt} {K : Int64 → xSt → Prop}  (H : ((x2 ≤ x8 → B_M_odds_71 h d x1 x2 x3 x4 x6 0 S K) ∧ (¬ x2 ≤ x8 → B_M_odds_48 h d x1 x2 x3 x4 (x6 * (100 : Int64)) (x8 + 1) S K))) : B_M_odds_48 h d x1 x2 x3 x4 x6 x8 S K := by
  unfold B_M_odds_48
  refine x_iload (x_at tdX12_odds 26 rfl) rfl ?_
  refine x_iload_n (x_at tdX12_odds 27 rfl) rfl rfl ?_
  refine x_ic_ge 68 (x_at tdX12_odds 28 rfl) rfl (fun c => ?_) (fun c => ?_)
  · have H := H.1 c
    refine x_iconst (x_at tdX12_odds 35 rfl) k_c_0 ?_
    refine x_istore (x_at tdX12_odds 36 rfl) (by decide) ?_
    refine x_weak (lv' := [(0, .ref (x_ad (gM h) 0)), (1, .int x1), (2, .int x2), (3, .int x3), (4, .long x4), (6, .long x6), (8, .int 0)]) ⟨rfl, rfl, rfl, rfl, rfl, rfl, rfl, trivial⟩ ?_
    exact H
  · have H := H.2 c
    refine x_lload (x_at tdX12_odds 29 rfl) rfl ?_
    refine x_ldc2 (x_at tdX12_odds 30 rfl) wk_X12_551 ?_
    refine x_lmul (x_at tdX12_odds 31 rfl) ?_
    refine x_lstore (x_at tdX12_odds 32 rfl) (by decide) ?_
    refine x_iinc (x_at tdX12_odds 33 rfl) rfl (k_inc_1 _) (by decide) ?_
    refine x_goto 48 (x_at tdX12_odds 34 rfl) rfl ?_
    refine x_weak (lv' := [(0, .ref (x_ad (gM h) 0)), (1, .int x1), (2, .int x2), (3, .int x3), (4, .long x4), (6, .long (x6 * (100 : Int64))), (8, .int (x8 + 1))]) ⟨rfl, rfl, rfl, rfl, rfl, rfl, rfl, trivial⟩ ?_
    exact H
theorem b_M_odds_71 {h : xH} {d : Nat}  {x1 : Int32} {x2 : Int32} {x3 : Int32} {x4 : Int64} {x6 : Int64} {x8 : Int32} {S : xSt} {K : Int64 → xSt → Prop}  (H : ((((1 : Int32) <<< (x2 &&& 31)) ≤ x8 → M_M_common h (d + 3) x6 x4 S (fun (r1 : Int64) (S1 : xSt) => ((¬ x3 = 0 → (¬ r1 = 0 ∧ K (x6 / r1) S1)) ∧ (x3 = 0 → (¬ r1 = 0 ∧ K (x4 / r1) S1))))) ∧ (¬ ((1 : Int32) <<< (x2 &&& 31)) ≤ x8 → M_M_threadBy h d x1 x2 x8 S (fun (r2 : Int32) (S2 : xSt) => ((¬ r2 = 0 → B_M_odds_99 h d x1 x2 x3 x4 x6 x8 1 0 S2 K) ∧ (r2 = 0 → B_M_odds_150 h d x1 x2 x3 x4 x6 x8 S2 K)))))) : B_M_odds_71 h d x1 x2 x3 x4 x6 x8 S K := by
  unfold B_M_odds_71
  refine x_iload (x_at tdX12_odds 37 rfl) rfl ?_
  refine x_iconst (x_at tdX12_odds 38 rfl) k_c_1 ?_
  refine x_iload_n (x_at tdX12_odds 39 rfl) rfl rfl ?_
  refine x_ishl (x_at tdX12_odds 40 rfl) ?_
  refine x_ic_ge 156 (x_at tdX12_odds 41 rfl) rfl (fun c => ?_) (fun c => ?_)
  · have H := H.1 c
    refine x_lload (x_at tdX12_odds 83 rfl) rfl ?_
    refine x_lload (x_at tdX12_odds 84 rfl) rfl ?_
    refine x_cSl (as := [.long x6, .long x4]) (rest := []) mi_X12_common (x_at tdX12_odds 85 rfl) wm_X12_556 rfl (Nat.le_of_ble_eq_true rfl) rfl H (fun r1 S1 H => ?_)
    refine x_lstore (x_at tdX12_odds 86 rfl) (by decide) ?_
    refine x_iload_n (x_at tdX12_odds 87 rfl) rfl rfl ?_
    refine x_if_ne 177 (x_at tdX12_odds 88 rfl) rfl (fun c => ?_) (fun c => ?_)
    · have H := H.1 c
      refine x_lload (x_at tdX12_odds 93 rfl) rfl ?_
      refine x_lload (x_at tdX12_odds 94 rfl) rfl ?_
      refine x_ldiv (x_at tdX12_odds 95 rfl) H.1 ?_
      have H := H.2
      exact x_lreturn rfl (x_at tdX12_odds 96 rfl) ⟨_, rfl, H⟩
    · have H := H.2 c
      refine x_lload (x_at tdX12_odds 89 rfl) rfl ?_
      refine x_lload (x_at tdX12_odds 90 rfl) rfl ?_
      refine x_ldiv (x_at tdX12_odds 91 rfl) H.1 ?_
      have H := H.2
      refine x_goto 182 (x_at tdX12_odds 92 rfl) rfl ?_
      exact x_lreturn rfl (x_at tdX12_odds 96 rfl) ⟨_, rfl, H⟩
  · have H := H.2 c
    refine x_aload_n (x_at tdX12_odds 42 rfl) rfl rfl ?_
    refine x_iload_n (x_at tdX12_odds 43 rfl) rfl rfl ?_
    refine x_iload_n (x_at tdX12_odds 44 rfl) rfl rfl ?_
    refine x_iload (x_at tdX12_odds 45 rfl) rfl ?_
    refine x_cVi (as := [.int x1, .int x2, .int x8]) (rest := []) mi_X12_threadBy vc_12 (lM_0 h) (x_at tdX12_odds 46 rfl) wm_X12_553 rfl (Nat.le_of_ble_eq_true rfl) rfl H (fun r2 S2 H => ?_)
    refine x_if_ne 93 (x_at tdX12_odds 47 rfl) rfl (fun c => ?_) (fun c => ?_)
    · have H := H.1 c
      refine x_lconst (v := 1) (x_at tdX12_odds 49 rfl) rfl ?_
      refine x_lstore (x_at tdX12_odds 50 rfl) (by decide) ?_
      refine x_iconst (x_at tdX12_odds 51 rfl) k_c_0 ?_
      refine x_istore (x_at tdX12_odds 52 rfl) (by decide) ?_
      refine x_weak (lv' := [(0, .ref (x_ad (gM h) 0)), (1, .int x1), (2, .int x2), (3, .int x3), (4, .long x4), (6, .long x6), (8, .int x8), (9, .long 1), (11, .int 0)]) ⟨rfl, rfl, rfl, rfl, rfl, rfl, rfl, rfl, rfl, trivial⟩ ?_
      exact H
    · have H := H.2 c
      refine x_goto 150 (x_at tdX12_odds 48 rfl) rfl ?_
      refine x_weak (lv' := [(0, .ref (x_ad (gM h) 0)), (1, .int x1), (2, .int x2), (3, .int x3), (4, .long x4), (6, .long x6), (8, .int x8)]) ⟨rfl, rfl, rfl, rfl, rfl, rfl, rfl, trivial⟩ ?_
      exact H
theorem b_M_odds_99 {h : xH} {d : Nat}  {x1 : Int32} {x2 : Int32} {x3 : Int32} {x4 : Int64} {x6 : Int64} {x8 : Int32} {x9 : Int64} {x11 : Int32} {S : xSt} {K : Int64 → xSt → Prop}  (H : ((x2 ≤ x11 → B_M_odds_150 h d x1 x2 x3 (x4 + x9) x6 x8 S K) ∧ (¬ x2 ≤ x11 → ((¬ ((x8 >>> (x11 &&& 31)) &&& (1 : Int32)) = 1 → B_M_odds_134 h d x1 x2 x3 x4 x6 x8 x11 (((100 : Int32) - (S.1 0 61)) : Int32).toInt64 x9 S K) ∧ (((x8 >>> (x11 &&& 31)) &&& (1 : Int32)) = 1 → B_M_odds_134 h d x1 x2 x3 x4 x6 x8 x11 ((S.1 0 61) : Int32).toInt64 x9 S K))))) : B_M_odds_99 h d x1 x2 x3 x4 x6 x8 x9 x11 S K := by
  unfold B_M_odds_99
  refine x_iload (x_at tdX12_odds 53 rfl) rfl ?_
  refine x_iload_n (x_at tdX12_odds 54 rfl) rfl rfl ?_
  refine x_ic_ge 143 (x_at tdX12_odds 55 rfl) rfl (fun c => ?_) (fun c => ?_)
  · have H := H.1 c
    refine x_lload (x_at tdX12_odds 77 rfl) rfl ?_
    refine x_lload (x_at tdX12_odds 78 rfl) rfl ?_
    refine x_ladd (x_at tdX12_odds 79 rfl) ?_
    refine x_lstore (x_at tdX12_odds 80 rfl) (by decide) ?_
    refine x_weak (lv' := [(0, .ref (x_ad (gM h) 0)), (1, .int x1), (2, .int x2), (3, .int x3), (4, .long (x4 + x9)), (6, .long x6), (8, .int x8)]) ⟨rfl, rfl, rfl, rfl, rfl, rfl, rfl, trivial⟩ ?_
    exact H
  · have H := H.2 c
    refine x_lload (x_at tdX12_odds 56 rfl) rfl ?_
    refine x_iload (x_at tdX12_odds 57 rfl) rfl ?_
    refine x_iload (x_at tdX12_odds 58 rfl) rfl ?_
    refine x_ishr (x_at tdX12_odds 59 rfl) ?_
    refine x_iconst (x_at tdX12_odds 60 rfl) k_c_1 ?_
    refine x_iand (x_at tdX12_odds 61 rfl) ?_
    refine x_iconst (x_at tdX12_odds 62 rfl) k_c_1 ?_
    refine x_ic_ne 126 (x_at tdX12_odds 63 rfl) rfl (fun c => ?_) (fun c => ?_)
    · have H := H.1 c
      refine x_bipush (x_at tdX12_odds 68 rfl) k_b_100 ?_
      refine x_aload_n (x_at tdX12_odds 69 rfl) rfl rfl ?_
      refine gfM_0_61 (x_at tdX12_odds 70 rfl) wf_X12_435 ?_
      refine x_isub (x_at tdX12_odds 71 rfl) ?_
      refine x_i2l (x_at tdX12_odds 72 rfl) ?_
      refine x_weak (lv' := [(0, .ref (x_ad (gM h) 0)), (1, .int x1), (2, .int x2), (3, .int x3), (4, .long x4), (6, .long x6), (8, .int x8), (11, .int x11)]) ⟨rfl, rfl, rfl, rfl, rfl, rfl, rfl, rfl, trivial⟩ ?_
      exact H
    · have H := H.2 c
      refine x_aload_n (x_at tdX12_odds 64 rfl) rfl rfl ?_
      refine gfM_0_61 (x_at tdX12_odds 65 rfl) wf_X12_435 ?_
      refine x_i2l (x_at tdX12_odds 66 rfl) ?_
      refine x_goto 134 (x_at tdX12_odds 67 rfl) rfl ?_
      refine x_weak (lv' := [(0, .ref (x_ad (gM h) 0)), (1, .int x1), (2, .int x2), (3, .int x3), (4, .long x4), (6, .long x6), (8, .int x8), (11, .int x11)]) ⟨rfl, rfl, rfl, rfl, rfl, rfl, rfl, rfl, trivial⟩ ?_
      exact H
theorem b_M_odds_134 {h : xH} {d : Nat}  {x1 : Int32} {x2 : Int32} {x3 : Int32} {x4 : Int64} {x6 : Int64} {x8 : Int32} {x11 : Int32} {s0 : Int64} {s1 : Int64} {S : xSt} {K : Int64 → xSt → Prop}  (H : B_M_odds_99 h d x1 x2 x3 x4 x6 x8 (s1 * s0) (x11 + 1) S K) : B_M_odds_134 h d x1 x2 x3 x4 x6 x8 x11 s0 s1 S K := by
  unfold B_M_odds_134
  refine x_lmul (x_at tdX12_odds 73 rfl) ?_
  refine x_lstore (x_at tdX12_odds 74 rfl) (by decide) ?_
  refine x_iinc (x_at tdX12_odds 75 rfl) rfl (k_inc_1 _) (by decide) ?_
  refine x_goto 99 (x_at tdX12_odds 76 rfl) rfl ?_
  refine x_weak (lv' := [(0, .ref (x_ad (gM h) 0)), (1, .int x1), (2, .int x2), (3, .int x3), (4, .long x4), (6, .long x6), (8, .int x8), (9, .long (s1 * s0)), (11, .int (x11 + 1))]) ⟨rfl, rfl, rfl, rfl, rfl, rfl, rfl, rfl, rfl, trivial⟩ ?_
  exact H
theorem b_M_odds_150 {h : xH} {d : Nat}  {x1 : Int32} {x2 : Int32} {x3 : Int32} {x4 : Int64} {x6 : Int64} {x8 : Int32} {S : xSt} {K : Int64 → xSt → Prop}  (H : B_M_odds_71 h d x1 x2 x3 x4 x6 (x8 + 1) S K) : B_M_odds_150 h d x1 x2 x3 x4 x6 x8 S K := by
  unfold B_M_odds_150
  refine x_iinc (x_at tdX12_odds 81 rfl) rfl (k_inc_1 _) (by decide) ?_
  refine x_goto 71 (x_at tdX12_odds 82 rfl) rfl ?_
  refine x_weak (lv' := [(0, .ref (x_ad (gM h) 0)), (1, .int x1), (2, .int x2), (3, .int x3), (4, .long x4), (6, .long x6), (8, .int (x8 + 1))]) ⟨rfl, rfl, rfl, rfl, rfl, rfl, rfl, trivial⟩ ?_
  exact H
theorem e_M_daysOf {h : xH} {d : Nat} {x1 : Int32} {S : xSt} {K : Int32 → xSt → Prop}  (H : (vp_in ((10 : Int32) + x1) 24 ∧ B_M_daysOf_12 h d x1 (S.1 34 (((10 : Int32) + x1) : Int32).toNatClampNeg) 0 S K)) : M_M_daysOf h d x1 S K := by
  refine x_enter pn_X12 (Nat.le_of_ble_eq_true rfl) ?_
  show X (gM h) _ _ 0 [(0, .ref (x_ad (gM h) 0)), (1, .int x1)] [] S _
  refine x_aload_n (x_at tdX12_daysOf 0 rfl) rfl rfl ?_
  refine gfM_0_67 (x_at tdX12_daysOf 1 rfl) wf_X12_118 ?_
  refine x_bipush (x_at tdX12_daysOf 2 rfl) k_b_10 ?_
  refine x_iload_n (x_at tdX12_daysOf 3 rfl) rfl rfl ?_
  refine x_iadd (x_at tdX12_daysOf 4 rfl) ?_
  refine x_iald (lM_34 h) (x_at tdX12_daysOf 5 rfl) H.1 ?_
  have H := H.2
  refine x_istore_n (x_at tdX12_daysOf 6 rfl) rfl (by decide) ?_
  refine x_iconst (x_at tdX12_daysOf 7 rfl) k_c_0 ?_
  refine x_istore_n (x_at tdX12_daysOf 8 rfl) rfl (by decide) ?_
  refine x_weak (lv' := [(0, .ref (x_ad (gM h) 0)), (1, .int x1), (2, .int (S.1 34 (((10 : Int32) + x1) : Int32).toNatClampNeg)), (3, .int 0)]) ⟨rfl, rfl, rfl, rfl, trivial⟩ ?_
  exact H
theorem b_M_daysOf_12 {h : xH} {d : Nat}  {x1 : Int32} {x2 : Int32} {x3 : Int32} {S : xSt} {K : Int32 → xSt → Prop}  (H : ((60 ≤ x3 → K 1000000 S) ∧ (¬ 60 ≤ x3 → (vp_in x1 10 ∧ (vp_in (S.1 27 (x1 : Int32).toNatClampNeg) 6 ∧ M_M_wearOf h d x2 (S.1 16 ((S.1 27 (x1 : Int32).toNatClampNeg) : Int32).toNatClampNeg) 0 ((S.1 34 20) + x3) S (fun (r1 : Int32) (S1 : xSt) => ((¬ (x2 - r1) = 0 → B_M_daysOf_12 h d x1 (x2 - r1) (x3 + 1) S1 K) ∧ ((x2 - r1) = 0 → K (x3 + (1 : Int32)) S1)))))))) : B_M_daysOf_12 h d x1 x2 x3 S K := by
  unfold B_M_daysOf_12
  refine x_iload_n (x_at tdX12_daysOf 9 rfl) rfl rfl ?_
  refine x_bipush (x_at tdX12_daysOf 10 rfl) k_b_60 ?_
  refine x_ic_ge 61 (x_at tdX12_daysOf 11 rfl) rfl (fun c => ?_) (fun c => ?_)
  · have H := H.1 c
    refine x_ldcw (x_at tdX12_daysOf 40 rfl) wk_X12_560 ?_
    exact x_ireturn (ty := .int) rfl rfl (x_at tdX12_daysOf 41 rfl) ⟨_, rfl, H⟩
  · have H := H.2 c
    refine x_iload_n (x_at tdX12_daysOf 12 rfl) rfl rfl ?_
    refine x_aload_n (x_at tdX12_daysOf 13 rfl) rfl rfl ?_
    refine x_iload_n (x_at tdX12_daysOf 14 rfl) rfl rfl ?_
    refine x_aload_n (x_at tdX12_daysOf 15 rfl) rfl rfl ?_
    refine gfM_0_31 (x_at tdX12_daysOf 16 rfl) wf_X12_60 ?_
    refine x_aload_n (x_at tdX12_daysOf 17 rfl) rfl rfl ?_
    refine gfM_0_42 (x_at tdX12_daysOf 18 rfl) wf_X12_93 ?_
    refine x_iload_n (x_at tdX12_daysOf 19 rfl) rfl rfl ?_
    refine x_iald (lM_27 h) (x_at tdX12_daysOf 20 rfl) H.1 ?_
    have H := H.2
    refine x_iald (lM_16 h) (x_at tdX12_daysOf 21 rfl) H.1 ?_
    have H := H.2
    refine x_iconst (x_at tdX12_daysOf 22 rfl) k_c_0 ?_
    refine x_aload_n (x_at tdX12_daysOf 23 rfl) rfl rfl ?_
    refine gfM_0_67 (x_at tdX12_daysOf 24 rfl) wf_X12_118 ?_
    refine x_bipush (x_at tdX12_daysOf 25 rfl) k_b_20 ?_
    refine x_iald (lM_34 h) (x_at tdX12_daysOf 26 rfl) vi_20_24 ?_
    refine x_top (v := (S.1 34 20)) rfl ?_
    refine x_iload_n (x_at tdX12_daysOf 27 rfl) rfl rfl ?_
    refine x_iadd (x_at tdX12_daysOf 28 rfl) ?_
    refine x_cVi (as := [.int x2, .int (S.1 16 ((S.1 27 (x1 : Int32).toNatClampNeg) : Int32).toNatClampNeg), .int 0, .int ((S.1 34 20) + x3)]) (rest := [.int x2]) mi_X12_wearOf vc_12 (lM_0 h) (x_at tdX12_daysOf 29 rfl) wm_X12_481 rfl (Nat.le_of_ble_eq_true rfl) rfl H (fun r1 S1 H => ?_)
    refine x_isub (x_at tdX12_daysOf 30 rfl) ?_
    refine x_istore_n (x_at tdX12_daysOf 31 rfl) rfl (by decide) ?_
    refine x_iload_n (x_at tdX12_daysOf 32 rfl) rfl rfl ?_
    refine x_if_ne 55 (x_at tdX12_daysOf 33 rfl) rfl (fun c => ?_) (fun c => ?_)
    · have H := H.1 c
      refine x_iinc (x_at tdX12_daysOf 38 rfl) rfl (k_inc_1 _) (by decide) ?_
      refine x_goto 12 (x_at tdX12_daysOf 39 rfl) rfl ?_
      refine x_weak (lv' := [(0, .ref (x_ad (gM h) 0)), (1, .int x1), (2, .int (x2 - r1)), (3, .int (x3 + 1))]) ⟨rfl, rfl, rfl, rfl, trivial⟩ ?_
      exact H
    · have H := H.2 c
      refine x_iload_n (x_at tdX12_daysOf 34 rfl) rfl rfl ?_
      refine x_iconst (x_at tdX12_daysOf 35 rfl) k_c_1 ?_
      refine x_iadd (x_at tdX12_daysOf 36 rfl) ?_
      exact x_ireturn (ty := .int) rfl rfl (x_at tdX12_daysOf 37 rfl) ⟨_, rfl, H⟩
theorem e_M_first {h : xH} {d : Nat} {x1 : Int32} {S : xSt} {K : Int32 → xSt → Prop}  (H : M_M_isIn h (d + 3) x1 0 1 S (fun (r1 : Int32) (S1 : xSt) => ((¬ r1 = 0 → B_M_first_20 h d x1 (-1) 1000000 0 S1 K) ∧ (r1 = 0 → K (-1) S1)))) : M_M_first h d x1 S K := by
  refine x_enter pn_X12 (Nat.le_of_ble_eq_true rfl) ?_
  show X (gM h) _ _ 0 [(0, .ref (x_ad (gM h) 0)), (1, .int x1)] [] S _
  refine x_iload_n (x_at tdX12_first 0 rfl) rfl rfl ?_
  refine x_iconst (x_at tdX12_first 1 rfl) k_c_0 ?_
  refine x_iconst (x_at tdX12_first 2 rfl) k_c_1 ?_
  refine x_cSi (as := [.int x1, .int 0, .int 1]) (rest := []) mi_X12_isIn (x_at tdX12_first 3 rfl) wm_X12_453 rfl (Nat.le_of_ble_eq_true rfl) rfl H (fun r1 S1 H => ?_)
  refine x_if_ne 11 (x_at tdX12_first 4 rfl) rfl (fun c => ?_) (fun c => ?_)
  · have H := H.1 c
    refine x_iconst (x_at tdX12_first 7 rfl) k_c_m1 ?_
    refine x_istore_n (x_at tdX12_first 8 rfl) rfl (by decide) ?_
    refine x_ldcw (x_at tdX12_first 9 rfl) wk_X12_560 ?_
    refine x_istore_n (x_at tdX12_first 10 rfl) rfl (by decide) ?_
    refine x_iconst (x_at tdX12_first 11 rfl) k_c_0 ?_
    refine x_istore (x_at tdX12_first 12 rfl) (by decide) ?_
    refine x_weak (lv' := [(0, .ref (x_ad (gM h) 0)), (1, .int x1), (2, .int (-1)), (3, .int 1000000), (4, .int 0)]) ⟨rfl, rfl, rfl, rfl, rfl, trivial⟩ ?_
    exact H
  · have H := H.2 c
    refine x_iconst (x_at tdX12_first 5 rfl) k_c_m1 ?_
    exact x_ireturn (ty := .int) rfl rfl (x_at tdX12_first 6 rfl) ⟨_, rfl, H⟩
theorem b_M_first_20 {h : xH} {d : Nat}  {x1 : Int32} {x2 : Int32} {x3 : Int32} {x4 : Int32} {S : xSt} {K : Int32 → xSt → Prop}  (H : (((S.1 0 58) ≤ x4 → ((0 ≤ x2 → ((¬ x1 = 0 → K x3 S) ∧ (x1 = 0 → K x2 S))) ∧ (¬ 0 ≤ x2 → K (-1) S))) ∧ (¬ (S.1 0 58) ≤ x4 → M_M_isOn h (d + 3) x4 S (fun (r1 : Int32) (S1 : xSt) => ((r1 = 0 → B_M_first_50 h d x1 x2 x3 x4 1000000 S1 K) ∧ (¬ r1 = 0 → M_M_daysOf h d x4 S1 (fun (r2 : Int32) (S2 : xSt) => B_M_first_50 h d x1 x2 x3 x4 r2 S2 K))))))) : B_M_first_20 h d x1 x2 x3 x4 S K := by
  unfold B_M_first_20
  refine x_iload (x_at tdX12_first 13 rfl) rfl ?_
  refine x_aload_n (x_at tdX12_first 14 rfl) rfl rfl ?_
  refine gfM_0_58 (x_at tdX12_first 15 rfl) wf_X12_429 ?_
  refine x_ic_ge 73 (x_at tdX12_first 16 rfl) rfl (fun c => ?_) (fun c => ?_)
  · have H := H.1 c
    refine x_iload_n (x_at tdX12_first 37 rfl) rfl rfl ?_
    refine x_if_ge 81 (x_at tdX12_first 38 rfl) rfl (fun c => ?_) (fun c => ?_)
    · have H := H.1 c
      refine x_iload_n (x_at tdX12_first 41 rfl) rfl rfl ?_
      refine x_if_ne 89 (x_at tdX12_first 42 rfl) rfl (fun c => ?_) (fun c => ?_)
      · have H := H.1 c
        refine x_iload_n (x_at tdX12_first 45 rfl) rfl rfl ?_
        exact x_ireturn (ty := .int) rfl rfl (x_at tdX12_first 46 rfl) ⟨_, rfl, H⟩
      · have H := H.2 c
        refine x_iload_n (x_at tdX12_first 43 rfl) rfl rfl ?_
        refine x_goto 90 (x_at tdX12_first 44 rfl) rfl ?_
        exact x_ireturn (ty := .int) rfl rfl (x_at tdX12_first 46 rfl) ⟨_, rfl, H⟩
    · have H := H.2 c
      refine x_iconst (x_at tdX12_first 39 rfl) k_c_m1 ?_
      refine x_goto 90 (x_at tdX12_first 40 rfl) rfl ?_
      exact x_ireturn (ty := .int) rfl rfl (x_at tdX12_first 46 rfl) ⟨_, rfl, H⟩
  · have H := H.2 c
    refine x_aload_n (x_at tdX12_first 17 rfl) rfl rfl ?_
    refine x_iload (x_at tdX12_first 18 rfl) rfl ?_
    refine x_cVi (as := [.int x4]) (rest := []) mi_X12_isOn vc_12 (lM_0 h) (x_at tdX12_first 19 rfl) wm_X12_469 rfl (Nat.le_of_ble_eq_true rfl) rfl H (fun r1 S1 H => ?_)
    refine x_if_eq 47 (x_at tdX12_first 20 rfl) rfl (fun c => ?_) (fun c => ?_)
    · have H := H.1 c
      refine x_ldcw (x_at tdX12_first 25 rfl) wk_X12_560 ?_
      refine x_weak (lv' := [(0, .ref (x_ad (gM h) 0)), (1, .int x1), (2, .int x2), (3, .int x3), (4, .int x4)]) ⟨rfl, rfl, rfl, rfl, rfl, trivial⟩ ?_
      exact H
    · have H := H.2 c
      refine x_aload_n (x_at tdX12_first 21 rfl) rfl rfl ?_
      refine x_iload (x_at tdX12_first 22 rfl) rfl ?_
      refine x_cVi (as := [.int x4]) (rest := []) mi_X12_daysOf vc_12 (lM_0 h) (x_at tdX12_first 23 rfl) wm_X12_561 rfl (Nat.le_of_ble_eq_true rfl) rfl H (fun r2 S2 H => ?_)
      refine x_goto 50 (x_at tdX12_first 24 rfl) rfl ?_
      refine x_weak (lv' := [(0, .ref (x_ad (gM h) 0)), (1, .int x1), (2, .int x2), (3, .int x3), (4, .int x4)]) ⟨rfl, rfl, rfl, rfl, rfl, trivial⟩ ?_
      exact H
theorem b_M_first_50 {h : xH} {d : Nat}  {x1 : Int32} {x2 : Int32} {x3 : Int32} {x4 : Int32} {s0 : Int32} {S : xSt} {K : Int32 → xSt → Prop}  (H : ((s0 < x3 → B_M_first_67 h d x1 x4 s0 x4 S K) ∧ (¬ s0 < x3 → B_M_first_67 h d x1 x2 x3 x4 S K))) : B_M_first_50 h d x1 x2 x3 x4 s0 S K := by
  unfold B_M_first_50
  refine x_istore (x_at tdX12_first 26 rfl) (by decide) ?_
  refine x_iload (x_at tdX12_first 27 rfl) rfl ?_
  refine x_iload_n (x_at tdX12_first 28 rfl) rfl rfl ?_
  refine x_ic_lt 61 (x_at tdX12_first 29 rfl) rfl (fun c => ?_) (fun c => ?_)
  · have H := H.1 c
    refine x_iload (x_at tdX12_first 31 rfl) rfl ?_
    refine x_istore_n (x_at tdX12_first 32 rfl) rfl (by decide) ?_
    refine x_iload (x_at tdX12_first 33 rfl) rfl ?_
    refine x_istore_n (x_at tdX12_first 34 rfl) rfl (by decide) ?_
    refine x_weak (lv' := [(0, .ref (x_ad (gM h) 0)), (1, .int x1), (2, .int x4), (3, .int s0), (4, .int x4)]) ⟨rfl, rfl, rfl, rfl, rfl, trivial⟩ ?_
    exact H
  · have H := H.2 c
    refine x_goto 67 (x_at tdX12_first 30 rfl) rfl ?_
    refine x_weak (lv' := [(0, .ref (x_ad (gM h) 0)), (1, .int x1), (2, .int x2), (3, .int x3), (4, .int x4)]) ⟨rfl, rfl, rfl, rfl, rfl, trivial⟩ ?_
    exact H
theorem b_M_first_67 {h : xH} {d : Nat}  {x1 : Int32} {x2 : Int32} {x3 : Int32} {x4 : Int32} {S : xSt} {K : Int32 → xSt → Prop}  (H : B_M_first_20 h d x1 x2 x3 (x4 + 1) S K) : B_M_first_67 h d x1 x2 x3 x4 S K := by
  unfold B_M_first_67
  refine x_iinc (x_at tdX12_first 35 rfl) rfl (k_inc_1 _) (by decide) ?_
  refine x_goto 20 (x_at tdX12_first 36 rfl) rfl ?_
  refine x_weak (lv' := [(0, .ref (x_ad (gM h) 0)), (1, .int x1), (2, .int x2), (3, .int x3), (4, .int (x4 + 1))]) ⟨rfl, rfl, rfl, rfl, rfl, trivial⟩ ?_
  exact H
theorem e_M_will {h : xH} {d : Nat} {x1 : Int32} {x2 : Int32} {S : xSt} {K : Int32 → xSt → Prop}  (H : M_M_isButton h (d + 2) x1 S (fun (r1 : Int32) (S1 : xSt) => ((r1 = 0 → K (-1) S1) ∧ (¬ r1 = 0 → M_M_isIn h (d + 3) x2 0 60 S1 (fun (r2 : Int32) (S2 : xSt) => ((¬ r2 = 0 → M_M_load h (d + 3) S2 (fun (S3 : xSt) => B_M_will_26 h d x1 x2 0 S3 K)) ∧ (r2 = 0 → K (-1) S2))))))) : M_M_will h d x1 x2 S K := by
  refine x_enter pn_X12 (Nat.le_of_ble_eq_true rfl) ?_
  show X (gM h) _ _ 0 [(0, .ref (x_ad (gM h) 0)), (1, .int x1), (2, .int x2)] [] S _
  refine x_aload_n (x_at tdX12_will 0 rfl) rfl rfl ?_
  refine x_iload_n (x_at tdX12_will 1 rfl) rfl rfl ?_
  refine x_cVi (as := [.int x1]) (rest := []) mi_X12_isButton vc_12 (lM_0 h) (x_at tdX12_will 2 rfl) wm_X12_457 rfl (Nat.le_of_ble_eq_true rfl) rfl H (fun r1 S1 H => ?_)
  refine x_if_eq 18 (x_at tdX12_will 3 rfl) rfl (fun c => ?_) (fun c => ?_)
  · have H := H.1 c
    refine x_iconst (x_at tdX12_will 9 rfl) k_c_m1 ?_
    exact x_ireturn (ty := .int) rfl rfl (x_at tdX12_will 10 rfl) ⟨_, rfl, H⟩
  · have H := H.2 c
    refine x_iload_n (x_at tdX12_will 4 rfl) rfl rfl ?_
    refine x_iconst (x_at tdX12_will 5 rfl) k_c_0 ?_
    refine x_bipush (x_at tdX12_will 6 rfl) k_b_60 ?_
    refine x_cSi (as := [.int x2, .int 0, .int 60]) (rest := []) mi_X12_isIn (x_at tdX12_will 7 rfl) wm_X12_453 rfl (Nat.le_of_ble_eq_true rfl) rfl H (fun r2 S2 H => ?_)
    refine x_if_ne 20 (x_at tdX12_will 8 rfl) rfl (fun c => ?_) (fun c => ?_)
    · have H := H.1 c
      refine x_aload_n (x_at tdX12_will 11 rfl) rfl rfl ?_
      refine x_cVv (as := []) (rest := []) mi_X12_load vc_12 (lM_0 h) (x_at tdX12_will 12 rfl) wm_X12_485 rfl (Nat.le_of_ble_eq_true rfl) rfl H (fun S3 H => ?_)
      refine x_iconst (x_at tdX12_will 13 rfl) k_c_0 ?_
      refine x_istore_n (x_at tdX12_will 14 rfl) rfl (by decide) ?_
      refine x_weak (lv' := [(0, .ref (x_ad (gM h) 0)), (1, .int x1), (2, .int x2), (3, .int 0)]) ⟨rfl, rfl, rfl, rfl, trivial⟩ ?_
      exact H
    · have H := H.2 c
      refine x_iconst (x_at tdX12_will 9 rfl) k_c_m1 ?_
      exact x_ireturn (ty := .int) rfl rfl (x_at tdX12_will 10 rfl) ⟨_, rfl, H⟩
theorem b_M_will_26 {h : xH} {d : Nat}  {x1 : Int32} {x2 : Int32} {x3 : Int32} {S : xSt} {K : Int32 → xSt → Prop}  (H : ((x2 ≤ x3 → (vp_in x1 10 ∧ K (S.1 36 (x1 : Int32).toNatClampNeg) S)) ∧ (¬ x2 ≤ x3 → M_M_goDay h d S (fun (r1 : Int32) (S1 : xSt) => B_M_will_26 h d x1 x2 (x3 + 1) S1 K)))) : B_M_will_26 h d x1 x2 x3 S K := by
  unfold B_M_will_26
  refine x_iload_n (x_at tdX12_will 15 rfl) rfl rfl ?_
  refine x_iload_n (x_at tdX12_will 16 rfl) rfl rfl ?_
  refine x_ic_ge 42 (x_at tdX12_will 17 rfl) rfl (fun c => ?_) (fun c => ?_)
  · have H := H.1 c
    refine x_aload_n (x_at tdX12_will 23 rfl) rfl rfl ?_
    refine gfM_0_71 (x_at tdX12_will 24 rfl) wf_X12_124 ?_
    refine x_iload_n (x_at tdX12_will 25 rfl) rfl rfl ?_
    refine x_iald (lM_36 h) (x_at tdX12_will 26 rfl) H.1 ?_
    have H := H.2
    exact x_ireturn (ty := .int) rfl rfl (x_at tdX12_will 27 rfl) ⟨_, rfl, H⟩
  · have H := H.2 c
    refine x_aload_n (x_at tdX12_will 18 rfl) rfl rfl ?_
    refine x_cVi (as := []) (rest := []) mi_X12_goDay vc_12 (lM_0 h) (x_at tdX12_will 19 rfl) wm_X12_488 rfl (Nat.le_of_ble_eq_true rfl) rfl H (fun r1 S1 H => ?_)
    refine x_pop (x_at tdX12_will 20 rfl) rfl ?_
    refine x_iinc (x_at tdX12_will 21 rfl) rfl (k_inc_1 _) (by decide) ?_
    refine x_goto 26 (x_at tdX12_will 22 rfl) rfl ?_
    refine x_weak (lv' := [(0, .ref (x_ad (gM h) 0)), (1, .int x1), (2, .int x2), (3, .int (x3 + 1))]) ⟨rfl, rfl, rfl, rfl, trivial⟩ ?_
    exact H
theorem e_M_has {h : xH} {d : Nat} {x1 : Int32} {S : xSt} {K : Int32 → xSt → Prop}  (H : (vp_in x1 6 ∧ ((0 ≤ (S.1 44 (x1 : Int32).toNatClampNeg) → (vp_in x1 6 ∧ (vp_in (((6 : Int32) * x1) + (S.1 44 (x1 : Int32).toNatClampNeg)) 36 ∧ K (S.1 19 ((((6 : Int32) * x1) + (S.1 44 (x1 : Int32).toNatClampNeg)) : Int32).toNatClampNeg) S))) ∧ (¬ 0 ≤ (S.1 44 (x1 : Int32).toNatClampNeg) → K 0 S)))) : M_M_has h d x1 S K := by
  refine x_enter pn_X12 (Nat.le_of_ble_eq_true rfl) ?_
  show X (gM h) _ _ 0 [(0, .ref (x_ad (gM h) 0)), (1, .int x1)] [] S _
  refine x_aload_n (x_at tdX12_has 0 rfl) rfl rfl ?_
  refine gfM_0_87 (x_at tdX12_has 1 rfl) wf_X12_148 ?_
  refine x_iload_n (x_at tdX12_has 2 rfl) rfl rfl ?_
  refine x_iald (lM_44 h) (x_at tdX12_has 3 rfl) H.1 ?_
  have H := H.2
  refine x_if_ge 13 (x_at tdX12_has 4 rfl) rfl (fun c => ?_) (fun c => ?_)
  · have H := H.1 c
    refine x_aload_n (x_at tdX12_has 7 rfl) rfl rfl ?_
    refine gfM_0_34 (x_at tdX12_has 8 rfl) wf_X12_69 ?_
    refine x_bipush (x_at tdX12_has 9 rfl) k_b_6 ?_
    refine x_iload_n (x_at tdX12_has 10 rfl) rfl rfl ?_
    refine x_imul (x_at tdX12_has 11 rfl) ?_
    refine x_aload_n (x_at tdX12_has 12 rfl) rfl rfl ?_
    refine gfM_0_87 (x_at tdX12_has 13 rfl) wf_X12_148 ?_
    refine x_iload_n (x_at tdX12_has 14 rfl) rfl rfl ?_
    refine x_iald (lM_44 h) (x_at tdX12_has 15 rfl) H.1 ?_
    have H := H.2
    refine x_iadd (x_at tdX12_has 16 rfl) ?_
    refine x_iald (lM_19 h) (x_at tdX12_has 17 rfl) H.1 ?_
    have H := H.2
    exact x_ireturn (ty := .int) rfl rfl (x_at tdX12_has 18 rfl) ⟨_, rfl, H⟩
  · have H := H.2 c
    refine x_iconst (x_at tdX12_has 5 rfl) k_c_0 ?_
    refine x_goto 29 (x_at tdX12_has 6 rfl) rfl ?_
    exact x_ireturn (ty := .int) rfl rfl (x_at tdX12_has 18 rfl) ⟨_, rfl, H⟩
theorem e_M_isTold {h : xH} {d : Nat} {x1 : Int32} {x2 : Int32} {S : xSt} {K : Int32 → xSt → Prop}  (H : (vp_in (((6 : Int32) * x1) + x2) 36 ∧ (((S.1 19 ((((6 : Int32) * x1) + x2) : Int32).toNatClampNeg) = (-100) → K 0 S) ∧ (¬ (S.1 19 ((((6 : Int32) * x1) + x2) : Int32).toNatClampNeg) = (-100) → K 1 S)))) : M_M_isTold h d x1 x2 S K := by
  refine x_enter pn_X12 (Nat.le_of_ble_eq_true rfl) ?_
  show X (gM h) _ _ 0 [(0, .ref (x_ad (gM h) 0)), (1, .int x1), (2, .int x2)] [] S _
  refine x_aload_n (x_at tdX12_isTold 0 rfl) rfl rfl ?_
  refine gfM_0_34 (x_at tdX12_isTold 1 rfl) wf_X12_69 ?_
  refine x_bipush (x_at tdX12_isTold 2 rfl) k_b_6 ?_
  refine x_iload_n (x_at tdX12_isTold 3 rfl) rfl rfl ?_
  refine x_imul (x_at tdX12_isTold 4 rfl) ?_
  refine x_iload_n (x_at tdX12_isTold 5 rfl) rfl rfl ?_
  refine x_iadd (x_at tdX12_isTold 6 rfl) ?_
  refine x_iald (lM_19 h) (x_at tdX12_isTold 7 rfl) H.1 ?_
  have H := H.2
  refine x_bipush (x_at tdX12_isTold 8 rfl) k_b_m100 ?_
  refine x_ic_eq 20 (x_at tdX12_isTold 9 rfl) rfl (fun c => ?_) (fun c => ?_)
  · have H := H.1 c
    refine x_iconst (x_at tdX12_isTold 12 rfl) k_c_0 ?_
    exact x_ireturn (ty := .boolean) rfl zb0.1 (x_at tdX12_isTold 13 rfl) ⟨_, rfl, H⟩
  · have H := H.2 c
    refine x_iconst (x_at tdX12_isTold 10 rfl) k_c_1 ?_
    refine x_goto 21 (x_at tdX12_isTold 11 rfl) rfl ?_
    exact x_ireturn (ty := .boolean) rfl zb1.1 (x_at tdX12_isTold 13 rfl) ⟨_, rfl, H⟩
theorem e_M_layTwos {h : xH} {d : Nat} {x1 : Int32} {S : xSt} {K : Int32 → xSt → Prop}  (H : B_M_layTwos_9 h d x1 ((S.1 0 56) - (1 : Int32)) S K) : M_M_layTwos h d x1 S K := by
  refine x_enter pn_X12 (Nat.le_of_ble_eq_true rfl) ?_
  show X (gM h) _ _ 0 [(0, .ref (x_ad (gM h) 0)), (1, .int x1)] [] S _
  refine x_iload_n (x_at tdX12_layTwos 0 rfl) rfl rfl ?_
  refine x_istore_n (x_at tdX12_layTwos 1 rfl) rfl (by decide) ?_
  refine x_aload_n (x_at tdX12_layTwos 2 rfl) rfl rfl ?_
  refine gfM_0_56 (x_at tdX12_layTwos 3 rfl) wf_X12_423 ?_
  refine x_iconst (x_at tdX12_layTwos 4 rfl) k_c_1 ?_
  refine x_isub (x_at tdX12_layTwos 5 rfl) ?_
  refine x_istore_n (x_at tdX12_layTwos 6 rfl) rfl (by decide) ?_
  refine x_weak (lv' := [(0, .ref (x_ad (gM h) 0)), (2, .int x1), (3, .int ((S.1 0 56) - (1 : Int32)))]) ⟨rfl, rfl, rfl, trivial⟩ ?_
  exact H
theorem b_M_layTwos_9 {h : xH} {d : Nat}  {x2 : Int32} {x3 : Int32} {S : xSt} {K : Int32 → xSt → Prop}  (H : ((x3 < 0 → B_M_layTwos_49 h d 1 0 S K) ∧ (¬ x3 < 0 → (¬ ((S.1 0 56) + (1 : Int32)) = 0 ∧ (vp_in x3 6 ∧ (¬ ((S.1 0 56) + (1 : Int32)) = 0 ∧ B_M_layTwos_9 h d (x2 / ((S.1 0 56) + (1 : Int32))) (x3 + (-1)) (x_putI S 44 (x3 : Int32).toNatClampNeg ((x2 - x2 / ((S.1 0 56) + (1 : Int32)) * ((S.1 0 56) + (1 : Int32))) - (1 : Int32))) K)))))) : B_M_layTwos_9 h d x2 x3 S K := by
  unfold B_M_layTwos_9
  refine x_iload_n (x_at tdX12_layTwos 7 rfl) rfl rfl ?_
  refine x_if_lt 44 (x_at tdX12_layTwos 8 rfl) rfl (fun c => ?_) (fun c => ?_)
  · have H := H.1 c
    refine x_iconst (x_at tdX12_layTwos 30 rfl) k_c_1 ?_
    refine x_istore_n (x_at tdX12_layTwos 31 rfl) rfl (by decide) ?_
    refine x_iconst (x_at tdX12_layTwos 32 rfl) k_c_0 ?_
    refine x_istore (x_at tdX12_layTwos 33 rfl) (by decide) ?_
    refine x_weak (lv' := [(0, .ref (x_ad (gM h) 0)), (3, .int 1), (4, .int 0)]) ⟨rfl, rfl, rfl, trivial⟩ ?_
    exact H
  · have H := H.2 c
    refine x_aload_n (x_at tdX12_layTwos 9 rfl) rfl rfl ?_
    refine gfM_0_87 (x_at tdX12_layTwos 10 rfl) wf_X12_148 ?_
    refine x_iload_n (x_at tdX12_layTwos 11 rfl) rfl rfl ?_
    refine x_iload_n (x_at tdX12_layTwos 12 rfl) rfl rfl ?_
    refine x_aload_n (x_at tdX12_layTwos 13 rfl) rfl rfl ?_
    refine gfM_0_56 (x_at tdX12_layTwos 14 rfl) wf_X12_423 ?_
    refine x_iconst (x_at tdX12_layTwos 15 rfl) k_c_1 ?_
    refine x_iadd (x_at tdX12_layTwos 16 rfl) ?_
    refine x_irem (x_at tdX12_layTwos 17 rfl) H.1 ?_
    have H := H.2
    refine x_iconst (x_at tdX12_layTwos 18 rfl) k_c_1 ?_
    refine x_isub (x_at tdX12_layTwos 19 rfl) ?_
    refine x_iast (lM_44 h) (x_at tdX12_layTwos 20 rfl) H.1 ?_
    have H := H.2
    refine x_iload_n (x_at tdX12_layTwos 21 rfl) rfl rfl ?_
    refine x_aload_n (x_at tdX12_layTwos 22 rfl) rfl rfl ?_
    refine gfM_0_56 (x_at tdX12_layTwos 23 rfl) wf_X12_423 ?_
    refine x_top (v := (S.1 0 56)) rfl ?_
    refine x_iconst (x_at tdX12_layTwos 24 rfl) k_c_1 ?_
    refine x_iadd (x_at tdX12_layTwos 25 rfl) ?_
    refine x_idiv (x_at tdX12_layTwos 26 rfl) H.1 ?_
    have H := H.2
    refine x_istore_n (x_at tdX12_layTwos 27 rfl) rfl (by decide) ?_
    refine x_iinc (x_at tdX12_layTwos 28 rfl) rfl (k_inc_m1 _) (by decide) ?_
    refine x_goto 9 (x_at tdX12_layTwos 29 rfl) rfl ?_
    refine x_weak (lv' := [(0, .ref (x_ad (gM h) 0)), (2, .int (x2 / ((S.1 0 56) + (1 : Int32)))), (3, .int (x3 + (-1)))]) ⟨rfl, rfl, rfl, trivial⟩ ?_
    exact H
theorem b_M_layTwos_49 {h : xH} {d : Nat}  {x3 : Int32} {x4 : Int32} {S : xSt} {K : Int32 → xSt → Prop}  (H : (((S.1 0 56) ≤ x4 → (zb x3 ∧ K x3 S)) ∧ (¬ (S.1 0 56) ≤ x4 → ((x3 = 0 → (zb x3 ∧ K x3 S)) ∧ (¬ x3 = 0 → (vp_in x4 6 ∧ (((S.1 44 (x4 : Int32).toNatClampNeg) < 0 → B_M_layTwos_117 h d x4 S K) ∧ (¬ (S.1 44 (x4 : Int32).toNatClampNeg) < 0 → (vp_in x4 6 ∧ (((S.1 44 (x4 : Int32).toNatClampNeg) = x4 → B_M_layTwos_121 h d x4 S K) ∧ (¬ (S.1 44 (x4 : Int32).toNatClampNeg) = x4 → (vp_in x4 6 ∧ (vp_in (S.1 44 (x4 : Int32).toNatClampNeg) 6 ∧ ((¬ (S.1 44 ((S.1 44 (x4 : Int32).toNatClampNeg) : Int32).toNatClampNeg) = x4 → B_M_layTwos_121 h d x4 S K) ∧ ((S.1 44 ((S.1 44 (x4 : Int32).toNatClampNeg) : Int32).toNatClampNeg) = x4 → (vp_in x4 6 ∧ M_M_isTold h d x4 (S.1 44 (x4 : Int32).toNatClampNeg) S (fun (r1 : Int32) (S1 : xSt) => ((r1 = 0 → B_M_layTwos_121 h d x4 S1 K) ∧ (¬ r1 = 0 → B_M_layTwos_117 h d x4 S1 K))))))))))))))))))) : B_M_layTwos_49 h d x3 x4 S K := by
  unfold B_M_layTwos_49
  refine x_iload (x_at tdX12_layTwos 34 rfl) rfl ?_
  refine x_aload_n (x_at tdX12_layTwos 35 rfl) rfl rfl ?_
  refine gfM_0_56 (x_at tdX12_layTwos 36 rfl) wf_X12_423 ?_
  refine x_ic_ge 129 (x_at tdX12_layTwos 37 rfl) rfl (fun c => ?_) (fun c => ?_)
  · have H := H.1 c
    refine x_iload_n (x_at tdX12_layTwos 74 rfl) rfl rfl ?_
    exact x_ireturn (ty := .boolean) rfl H.1.1 (x_at tdX12_layTwos 75 rfl) ⟨_, rfl, H.2⟩
  · have H := H.2 c
    refine x_iload_n (x_at tdX12_layTwos 38 rfl) rfl rfl ?_
    refine x_if_eq 129 (x_at tdX12_layTwos 39 rfl) rfl (fun c => ?_) (fun c => ?_)
    · have H := H.1 c
      refine x_iload_n (x_at tdX12_layTwos 74 rfl) rfl rfl ?_
      exact x_ireturn (ty := .boolean) rfl H.1.1 (x_at tdX12_layTwos 75 rfl) ⟨_, rfl, H.2⟩
    · have H := H.2 c
      refine x_aload_n (x_at tdX12_layTwos 40 rfl) rfl rfl ?_
      refine gfM_0_87 (x_at tdX12_layTwos 41 rfl) wf_X12_148 ?_
      refine x_iload (x_at tdX12_layTwos 42 rfl) rfl ?_
      refine x_iald (lM_44 h) (x_at tdX12_layTwos 43 rfl) H.1 ?_
      have H := H.2
      refine x_if_lt 117 (x_at tdX12_layTwos 44 rfl) rfl (fun c => ?_) (fun c => ?_)
      · have H := H.1 c
        refine x_weak (lv' := [(0, .ref (x_ad (gM h) 0)), (4, .int x4)]) ⟨rfl, rfl, trivial⟩ ?_
        exact H
      · have H := H.2 c
        refine x_aload_n (x_at tdX12_layTwos 45 rfl) rfl rfl ?_
        refine gfM_0_87 (x_at tdX12_layTwos 46 rfl) wf_X12_148 ?_
        refine x_iload (x_at tdX12_layTwos 47 rfl) rfl ?_
        refine x_iald (lM_44 h) (x_at tdX12_layTwos 48 rfl) H.1 ?_
        have H := H.2
        refine x_iload (x_at tdX12_layTwos 49 rfl) rfl ?_
        refine x_ic_eq 121 (x_at tdX12_layTwos 50 rfl) rfl (fun c => ?_) (fun c => ?_)
        · have H := H.1 c
          refine x_weak (lv' := [(0, .ref (x_ad (gM h) 0)), (4, .int x4)]) ⟨rfl, rfl, trivial⟩ ?_
          exact H
        · have H := H.2 c
          refine x_aload_n (x_at tdX12_layTwos 51 rfl) rfl rfl ?_
          refine gfM_0_87 (x_at tdX12_layTwos 52 rfl) wf_X12_148 ?_
          refine x_aload_n (x_at tdX12_layTwos 53 rfl) rfl rfl ?_
          refine gfM_0_87 (x_at tdX12_layTwos 54 rfl) wf_X12_148 ?_
          refine x_iload (x_at tdX12_layTwos 55 rfl) rfl ?_
          refine x_iald (lM_44 h) (x_at tdX12_layTwos 56 rfl) H.1 ?_
          have H := H.2
          refine x_iald (lM_44 h) (x_at tdX12_layTwos 57 rfl) H.1 ?_
          have H := H.2
          refine x_iload (x_at tdX12_layTwos 58 rfl) rfl ?_
          refine x_ic_ne 121 (x_at tdX12_layTwos 59 rfl) rfl (fun c => ?_) (fun c => ?_)
          · have H := H.1 c
            refine x_weak (lv' := [(0, .ref (x_ad (gM h) 0)), (4, .int x4)]) ⟨rfl, rfl, trivial⟩ ?_
            exact H
          · have H := H.2 c
            refine x_aload_n (x_at tdX12_layTwos 60 rfl) rfl rfl ?_
            refine x_iload (x_at tdX12_layTwos 61 rfl) rfl ?_
            refine x_aload_n (x_at tdX12_layTwos 62 rfl) rfl rfl ?_
            refine gfM_0_87 (x_at tdX12_layTwos 63 rfl) wf_X12_148 ?_
            refine x_iload (x_at tdX12_layTwos 64 rfl) rfl ?_
            refine x_iald (lM_44 h) (x_at tdX12_layTwos 65 rfl) H.1 ?_
            have H := H.2
            refine x_cVi (as := [.int x4, .int (S.1 44 (x4 : Int32).toNatClampNeg)]) (rest := []) mi_X12_isTold vc_12 (lM_0 h) (x_at tdX12_layTwos 66 rfl) wm_X12_564 rfl (Nat.le_of_ble_eq_true rfl) rfl H (fun r1 S1 H => ?_)
            refine x_if_eq 121 (x_at tdX12_layTwos 67 rfl) rfl (fun c => ?_) (fun c => ?_)
            · have H := H.1 c
              refine x_weak (lv' := [(0, .ref (x_ad (gM h) 0)), (4, .int x4)]) ⟨rfl, rfl, trivial⟩ ?_
              exact H
            · have H := H.2 c
              refine x_weak (lv' := [(0, .ref (x_ad (gM h) 0)), (4, .int x4)]) ⟨rfl, rfl, trivial⟩ ?_
              exact H
theorem b_M_layTwos_117 {h : xH} {d : Nat}  {x4 : Int32} {S : xSt} {K : Int32 → xSt → Prop}  (H : B_M_layTwos_122 h d x4 1 S K) : B_M_layTwos_117 h d x4 S K := by
  unfold B_M_layTwos_117
  refine x_iconst (x_at tdX12_layTwos 68 rfl) k_c_1 ?_
  refine x_goto 122 (x_at tdX12_layTwos 69 rfl) rfl ?_
  refine x_weak (lv' := [(0, .ref (x_ad (gM h) 0)), (4, .int x4)]) ⟨rfl, rfl, trivial⟩ ?_
  exact H
theorem b_M_layTwos_121 {h : xH} {d : Nat}  {x4 : Int32} {S : xSt} {K : Int32 → xSt → Prop}  (H : B_M_layTwos_122 h d x4 0 S K) : B_M_layTwos_121 h d x4 S K := by
  unfold B_M_layTwos_121
  refine x_iconst (x_at tdX12_layTwos 70 rfl) k_c_0 ?_
  refine x_weak (lv' := [(0, .ref (x_ad (gM h) 0)), (4, .int x4)]) ⟨rfl, rfl, trivial⟩ ?_
  exact H
theorem b_M_layTwos_122 {h : xH} {d : Nat}  {x4 : Int32} {s0 : Int32} {S : xSt} {K : Int32 → xSt → Prop}  (H : B_M_layTwos_49 h d s0 (x4 + 1) S K) : B_M_layTwos_122 h d x4 s0 S K := by
  unfold B_M_layTwos_122
  refine x_istore_n (x_at tdX12_layTwos 71 rfl) rfl (by decide) ?_
  refine x_iinc (x_at tdX12_layTwos 72 rfl) rfl (k_inc_1 _) (by decide) ?_
  refine x_goto 49 (x_at tdX12_layTwos 73 rfl) rfl ?_
  refine x_weak (lv' := [(0, .ref (x_ad (gM h) 0)), (3, .int s0), (4, .int (x4 + 1))]) ⟨rfl, rfl, rfl, trivial⟩ ?_
  exact H
theorem e_M_putTwos {h : xH} {d : Nat}  {S : xSt} {K : xSt → Prop}  (H : B_M_putTwos_2 h d 0 S K) : M_M_putTwos h d S K := by
  refine x_enter pn_X12 (Nat.le_of_ble_eq_true rfl) ?_
  show X (gM h) _ _ 0 [(0, .ref (x_ad (gM h) 0))] [] S _
  refine x_iconst (x_at tdX12_putTwos 0 rfl) k_c_0 ?_
  refine x_istore_n (x_at tdX12_putTwos 1 rfl) rfl (by decide) ?_
  refine x_weak (lv' := [(0, .ref (x_ad (gM h) 0)), (1, .int 0)]) ⟨rfl, rfl, trivial⟩ ?_
  exact H
theorem b_M_putTwos_2 {h : xH} {d : Nat}  {x1 : Int32} {S : xSt} {K : xSt → Prop}  (H : (((S.1 0 56) ≤ x1 → K (x_putI S 0 85 (S.1 0 56))) ∧ (¬ (S.1 0 56) ≤ x1 → (vp_in x1 6 ∧ (vp_in x1 10 ∧ B_M_putTwos_2 h d (x1 + 1) (x_putI S 42 (x1 : Int32).toNatClampNeg (S.1 44 (x1 : Int32).toNatClampNeg)) K))))) : B_M_putTwos_2 h d x1 S K := by
  unfold B_M_putTwos_2
  refine x_iload_n (x_at tdX12_putTwos 2 rfl) rfl rfl ?_
  refine x_aload_n (x_at tdX12_putTwos 3 rfl) rfl rfl ?_
  refine gfM_0_56 (x_at tdX12_putTwos 4 rfl) wf_X12_423 ?_
  refine x_ic_ge 28 (x_at tdX12_putTwos 5 rfl) rfl (fun c => ?_) (fun c => ?_)
  · have H := H.1 c
    refine x_aload_n (x_at tdX12_putTwos 16 rfl) rfl rfl ?_
    refine x_aload_n (x_at tdX12_putTwos 17 rfl) rfl rfl ?_
    refine gfM_0_56 (x_at tdX12_putTwos 18 rfl) wf_X12_423 ?_
    refine pfM_0_85 (x_at tdX12_putTwos 19 rfl) wf_X12_450 ?_
    exact x_return rfl (x_at tdX12_putTwos 20 rfl) ⟨rfl, H⟩
  · have H := H.2 c
    refine x_aload_n (x_at tdX12_putTwos 6 rfl) rfl rfl ?_
    refine gfM_0_84 (x_at tdX12_putTwos 7 rfl) wf_X12_142 ?_
    refine x_iload_n (x_at tdX12_putTwos 8 rfl) rfl rfl ?_
    refine x_aload_n (x_at tdX12_putTwos 9 rfl) rfl rfl ?_
    refine gfM_0_87 (x_at tdX12_putTwos 10 rfl) wf_X12_148 ?_
    refine x_iload_n (x_at tdX12_putTwos 11 rfl) rfl rfl ?_
    refine x_iald (lM_44 h) (x_at tdX12_putTwos 12 rfl) H.1 ?_
    have H := H.2
    refine x_iast (lM_42 h) (x_at tdX12_putTwos 13 rfl) H.1 ?_
    have H := H.2
    refine x_iinc (x_at tdX12_putTwos 14 rfl) rfl (k_inc_1 _) (by decide) ?_
    refine x_goto 2 (x_at tdX12_putTwos 15 rfl) rfl ?_
    refine x_weak (lv' := [(0, .ref (x_ad (gM h) 0)), (1, .int (x1 + 1))]) ⟨rfl, rfl, trivial⟩ ?_
    exact H
theorem e_M_rowsOf {h : xH} {d : Nat}  {S : xSt} {K : Int32 → xSt → Prop}  (H : B_M_rowsOf_4 h d 1 0 S K) : M_M_rowsOf h d S K := by
  refine x_enter pn_X12 (Nat.le_of_ble_eq_true rfl) ?_
  show X (gM h) _ _ 0 [(0, .ref (x_ad (gM h) 0))] [] S _
  refine x_iconst (x_at tdX12_rowsOf 0 rfl) k_c_1 ?_
  refine x_istore_n (x_at tdX12_rowsOf 1 rfl) rfl (by decide) ?_
  refine x_iconst (x_at tdX12_rowsOf 2 rfl) k_c_0 ?_
  refine x_istore_n (x_at tdX12_rowsOf 3 rfl) rfl (by decide) ?_
  refine x_weak (lv' := [(0, .ref (x_ad (gM h) 0)), (1, .int 1), (2, .int 0)]) ⟨rfl, rfl, rfl, trivial⟩ ?_
  exact H
theorem b_M_rowsOf_4 {h : xH} {d : Nat}  {x1 : Int32} {x2 : Int32} {S : xSt} {K : Int32 → xSt → Prop}  (H : (((S.1 0 56) ≤ x2 → K x1 S) ∧ (¬ (S.1 0 56) ≤ x2 → B_M_rowsOf_4 h d (x1 * ((S.1 0 56) + (1 : Int32))) (x2 + 1) S K))) : B_M_rowsOf_4 h d x1 x2 S K := by
  unfold B_M_rowsOf_4
  refine x_iload_n (x_at tdX12_rowsOf 4 rfl) rfl rfl ?_
  refine x_aload_n (x_at tdX12_rowsOf 5 rfl) rfl rfl ?_
  refine gfM_0_56 (x_at tdX12_rowsOf 6 rfl) wf_X12_423 ?_
  refine x_ic_ge 27 (x_at tdX12_rowsOf 7 rfl) rfl (fun c => ?_) (fun c => ?_)
  · have H := H.1 c
    refine x_iload_n (x_at tdX12_rowsOf 17 rfl) rfl rfl ?_
    exact x_ireturn (ty := .int) rfl rfl (x_at tdX12_rowsOf 18 rfl) ⟨_, rfl, H⟩
  · have H := H.2 c
    refine x_iload_n (x_at tdX12_rowsOf 8 rfl) rfl rfl ?_
    refine x_aload_n (x_at tdX12_rowsOf 9 rfl) rfl rfl ?_
    refine gfM_0_56 (x_at tdX12_rowsOf 10 rfl) wf_X12_423 ?_
    refine x_iconst (x_at tdX12_rowsOf 11 rfl) k_c_1 ?_
    refine x_iadd (x_at tdX12_rowsOf 12 rfl) ?_
    refine x_imul (x_at tdX12_rowsOf 13 rfl) ?_
    refine x_istore_n (x_at tdX12_rowsOf 14 rfl) rfl (by decide) ?_
    refine x_iinc (x_at tdX12_rowsOf 15 rfl) rfl (k_inc_1 _) (by decide) ?_
    refine x_goto 4 (x_at tdX12_rowsOf 16 rfl) rfl ?_
    refine x_weak (lv' := [(0, .ref (x_ad (gM h) 0)), (1, .int (x1 * ((S.1 0 56) + (1 : Int32)))), (2, .int (x2 + 1))]) ⟨rfl, rfl, rfl, trivial⟩ ?_
    exact H
theorem e_M_truce {h : xH} {d : Nat}  {S : xSt} {K : Int32 → xSt → Prop}  (H : M_M_rowsOf h (d + 1) (x_putI S 0 85 0) (fun (r1 : Int32) (S1 : xSt) => B_M_truce_14 h d (-1) r1 0 S1 K)) : M_M_truce h d S K := by
  refine x_enter pn_X12 (Nat.le_of_ble_eq_true rfl) ?_
  show X (gM h) _ _ 0 [(0, .ref (x_ad (gM h) 0))] [] S _
  refine x_aload_n (x_at tdX12_truce 0 rfl) rfl rfl ?_
  refine x_iconst (x_at tdX12_truce 1 rfl) k_c_0 ?_
  refine pfM_0_85 (x_at tdX12_truce 2 rfl) wf_X12_450 ?_
  refine x_iconst (x_at tdX12_truce 3 rfl) k_c_m1 ?_
  refine x_istore_n (x_at tdX12_truce 4 rfl) rfl (by decide) ?_
  refine x_aload_n (x_at tdX12_truce 5 rfl) rfl rfl ?_
  refine x_cVi (as := []) (rest := []) mi_X12_rowsOf vc_12 (lM_0 h) (x_at tdX12_truce 6 rfl) wm_X12_567 rfl (Nat.le_of_ble_eq_true rfl) rfl H (fun r1 S1 H => ?_)
  refine x_istore_n (x_at tdX12_truce 7 rfl) rfl (by decide) ?_
  refine x_iconst (x_at tdX12_truce 8 rfl) k_c_0 ?_
  refine x_istore_n (x_at tdX12_truce 9 rfl) rfl (by decide) ?_
  refine x_weak (lv' := [(0, .ref (x_ad (gM h) 0)), (1, .int (-1)), (2, .int r1), (3, .int 0)]) ⟨rfl, rfl, rfl, rfl, trivial⟩ ?_
  exact H
theorem b_M_truce_14 {h : xH} {d : Nat}  {x1 : Int32} {x2 : Int32} {x3 : Int32} {S : xSt} {K : Int32 → xSt → Prop}  (H : ((x2 ≤ x3 → K x1 S) ∧ (¬ x2 ≤ x3 → M_M_layTwos h d x3 S (fun (r1 : Int32) (S1 : xSt) => ((¬ r1 = 0 → B_M_truce_36 h d x1 x2 x3 0 0 S1 K) ∧ (r1 = 0 → B_M_truce_94 h d x1 x2 x3 S1 K)))))) : B_M_truce_14 h d x1 x2 x3 S K := by
  unfold B_M_truce_14
  refine x_iload_n (x_at tdX12_truce 10 rfl) rfl rfl ?_
  refine x_iload_n (x_at tdX12_truce 11 rfl) rfl rfl ?_
  refine x_ic_ge 100 (x_at tdX12_truce 12 rfl) rfl (fun c => ?_) (fun c => ?_)
  · have H := H.1 c
    refine x_iload_n (x_at tdX12_truce 52 rfl) rfl rfl ?_
    exact x_ireturn (ty := .int) rfl rfl (x_at tdX12_truce 53 rfl) ⟨_, rfl, H⟩
  · have H := H.2 c
    refine x_aload_n (x_at tdX12_truce 13 rfl) rfl rfl ?_
    refine x_iload_n (x_at tdX12_truce 14 rfl) rfl rfl ?_
    refine x_cVi (as := [.int x3]) (rest := []) mi_X12_layTwos vc_12 (lM_0 h) (x_at tdX12_truce 15 rfl) wm_X12_570 rfl (Nat.le_of_ble_eq_true rfl) rfl H (fun r1 S1 H => ?_)
    refine x_if_ne 30 (x_at tdX12_truce 16 rfl) rfl (fun c => ?_) (fun c => ?_)
    · have H := H.1 c
      refine x_iconst (x_at tdX12_truce 18 rfl) k_c_0 ?_
      refine x_istore (x_at tdX12_truce 19 rfl) (by decide) ?_
      refine x_iconst (x_at tdX12_truce 20 rfl) k_c_0 ?_
      refine x_istore (x_at tdX12_truce 21 rfl) (by decide) ?_
      refine x_weak (lv' := [(0, .ref (x_ad (gM h) 0)), (1, .int x1), (2, .int x2), (3, .int x3), (4, .int 0), (5, .int 0)]) ⟨rfl, rfl, rfl, rfl, rfl, rfl, trivial⟩ ?_
      exact H
    · have H := H.2 c
      refine x_goto 94 (x_at tdX12_truce 17 rfl) rfl ?_
      refine x_weak (lv' := [(0, .ref (x_ad (gM h) 0)), (1, .int x1), (2, .int x2), (3, .int x3)]) ⟨rfl, rfl, rfl, rfl, trivial⟩ ?_
      exact H
theorem b_M_truce_36 {h : xH} {d : Nat}  {x1 : Int32} {x2 : Int32} {x3 : Int32} {x4 : Int32} {x5 : Int32} {S : xSt} {K : Int32 → xSt → Prop}  (H : (((S.1 0 56) ≤ x5 → ((x1 < x4 → M_M_putTwos h (d + 1) S (fun (S1 : xSt) => B_M_truce_94 h d x4 x2 x3 S1 K)) ∧ (¬ x1 < x4 → B_M_truce_94 h d x1 x2 x3 S K))) ∧ (¬ (S.1 0 56) ≤ x5 → (vp_in x5 6 ∧ (((S.1 44 (x5 : Int32).toNatClampNeg) ≤ x5 → B_M_truce_69 h d x1 x2 x3 x5 0 x4 S K) ∧ (¬ (S.1 44 (x5 : Int32).toNatClampNeg) ≤ x5 → M_M_has h (d + 1) x5 S (fun (r2 : Int32) (S2 : xSt) => B_M_truce_69 h d x1 x2 x3 x5 r2 x4 S2 K))))))) : B_M_truce_36 h d x1 x2 x3 x4 x5 S K := by
  unfold B_M_truce_36
  refine x_iload (x_at tdX12_truce 22 rfl) rfl ?_
  refine x_aload_n (x_at tdX12_truce 23 rfl) rfl rfl ?_
  refine gfM_0_56 (x_at tdX12_truce 24 rfl) wf_X12_423 ?_
  refine x_ic_ge 78 (x_at tdX12_truce 25 rfl) rfl (fun c => ?_) (fun c => ?_)
  · have H := H.1 c
    refine x_iload (x_at tdX12_truce 42 rfl) rfl ?_
    refine x_iload_n (x_at tdX12_truce 43 rfl) rfl rfl ?_
    refine x_ic_gt 87 (x_at tdX12_truce 44 rfl) rfl (fun c => ?_) (fun c => ?_)
    · have H := H.1 c
      refine x_iload (x_at tdX12_truce 46 rfl) rfl ?_
      refine x_istore_n (x_at tdX12_truce 47 rfl) rfl (by decide) ?_
      refine x_aload_n (x_at tdX12_truce 48 rfl) rfl rfl ?_
      refine x_cVv (as := []) (rest := []) mi_X12_putTwos vc_12 (lM_0 h) (x_at tdX12_truce 49 rfl) wm_X12_576 rfl (Nat.le_of_ble_eq_true rfl) rfl H (fun S1 H => ?_)
      refine x_weak (lv' := [(0, .ref (x_ad (gM h) 0)), (1, .int x4), (2, .int x2), (3, .int x3)]) ⟨rfl, rfl, rfl, rfl, trivial⟩ ?_
      exact H
    · have H := H.2 c
      refine x_goto 94 (x_at tdX12_truce 45 rfl) rfl ?_
      refine x_weak (lv' := [(0, .ref (x_ad (gM h) 0)), (1, .int x1), (2, .int x2), (3, .int x3)]) ⟨rfl, rfl, rfl, rfl, trivial⟩ ?_
      exact H
  · have H := H.2 c
    refine x_iload (x_at tdX12_truce 26 rfl) rfl ?_
    refine x_aload_n (x_at tdX12_truce 27 rfl) rfl rfl ?_
    refine gfM_0_87 (x_at tdX12_truce 28 rfl) wf_X12_148 ?_
    refine x_iload (x_at tdX12_truce 29 rfl) rfl ?_
    refine x_iald (lM_44 h) (x_at tdX12_truce 30 rfl) H.1 ?_
    have H := H.2
    refine x_iload (x_at tdX12_truce 31 rfl) rfl ?_
    refine x_ic_le 68 (x_at tdX12_truce 32 rfl) rfl (fun c => ?_) (fun c => ?_)
    · have H := H.1 c
      refine x_iconst (x_at tdX12_truce 37 rfl) k_c_0 ?_
      refine x_weak (lv' := [(0, .ref (x_ad (gM h) 0)), (1, .int x1), (2, .int x2), (3, .int x3), (5, .int x5)]) ⟨rfl, rfl, rfl, rfl, rfl, trivial⟩ ?_
      exact H
    · have H := H.2 c
      refine x_aload_n (x_at tdX12_truce 33 rfl) rfl rfl ?_
      refine x_iload (x_at tdX12_truce 34 rfl) rfl ?_
      refine x_cVi (as := [.int x5]) (rest := [.int x4]) mi_X12_has vc_12 (lM_0 h) (x_at tdX12_truce 35 rfl) wm_X12_573 rfl (Nat.le_of_ble_eq_true rfl) rfl H (fun r2 S2 H => ?_)
      refine x_goto 69 (x_at tdX12_truce 36 rfl) rfl ?_
      refine x_weak (lv' := [(0, .ref (x_ad (gM h) 0)), (1, .int x1), (2, .int x2), (3, .int x3), (5, .int x5)]) ⟨rfl, rfl, rfl, rfl, rfl, trivial⟩ ?_
      exact H
theorem b_M_truce_69 {h : xH} {d : Nat}  {x1 : Int32} {x2 : Int32} {x3 : Int32} {x5 : Int32} {s0 : Int32} {s1 : Int32} {S : xSt} {K : Int32 → xSt → Prop}  (H : B_M_truce_36 h d x1 x2 x3 (s1 + s0) (x5 + 1) S K) : B_M_truce_69 h d x1 x2 x3 x5 s0 s1 S K := by
  unfold B_M_truce_69
  refine x_iadd (x_at tdX12_truce 38 rfl) ?_
  refine x_istore (x_at tdX12_truce 39 rfl) (by decide) ?_
  refine x_iinc (x_at tdX12_truce 40 rfl) rfl (k_inc_1 _) (by decide) ?_
  refine x_goto 36 (x_at tdX12_truce 41 rfl) rfl ?_
  refine x_weak (lv' := [(0, .ref (x_ad (gM h) 0)), (1, .int x1), (2, .int x2), (3, .int x3), (4, .int (s1 + s0)), (5, .int (x5 + 1))]) ⟨rfl, rfl, rfl, rfl, rfl, rfl, trivial⟩ ?_
  exact H
theorem b_M_truce_94 {h : xH} {d : Nat}  {x1 : Int32} {x2 : Int32} {x3 : Int32} {S : xSt} {K : Int32 → xSt → Prop}  (H : B_M_truce_14 h d x1 x2 (x3 + 1) S K) : B_M_truce_94 h d x1 x2 x3 S K := by
  unfold B_M_truce_94
  refine x_iinc (x_at tdX12_truce 50 rfl) rfl (k_inc_1 _) (by decide) ?_
  refine x_goto 14 (x_at tdX12_truce 51 rfl) rfl ?_
  refine x_weak (lv' := [(0, .ref (x_ad (gM h) 0)), (1, .int x1), (2, .int x2), (3, .int (x3 + 1))]) ⟨rfl, rfl, rfl, rfl, trivial⟩ ?_
  exact H
theorem e_M_isCalm {h : xH} {d : Nat}  {S : xSt} {K : Int32 → xSt → Prop}  (H : B_M_isCalm_4 h d 1 0 S K) : M_M_isCalm h d S K := by
  refine x_enter pn_X12 (Nat.le_of_ble_eq_true rfl) ?_
  show X (gM h) _ _ 0 [(0, .ref (x_ad (gM h) 0))] [] S _
  refine x_iconst (x_at tdX12_isCalm 0 rfl) k_c_1 ?_
  refine x_istore_n (x_at tdX12_isCalm 1 rfl) rfl (by decide) ?_
  refine x_iconst (x_at tdX12_isCalm 2 rfl) k_c_0 ?_
  refine x_istore_n (x_at tdX12_isCalm 3 rfl) rfl (by decide) ?_
  refine x_weak (lv' := [(0, .ref (x_ad (gM h) 0)), (1, .int 1), (2, .int 0)]) ⟨rfl, rfl, rfl, trivial⟩ ?_
  exact H
theorem b_M_isCalm_4 {h : xH} {d : Nat}  {x1 : Int32} {x2 : Int32} {S : xSt} {K : Int32 → xSt → Prop}  (H : (((S.1 0 56) ≤ x2 → (zb x1 ∧ K x1 S)) ∧ (¬ (S.1 0 56) ≤ x2 → B_M_isCalm_14 h d x1 x2 0 S K))) : B_M_isCalm_4 h d x1 x2 S K := by
  unfold B_M_isCalm_4
  refine x_iload_n (x_at tdX12_isCalm 4 rfl) rfl rfl ?_
  refine x_aload_n (x_at tdX12_isCalm 5 rfl) rfl rfl ?_
  refine gfM_0_56 (x_at tdX12_isCalm 6 rfl) wf_X12_423 ?_
  refine x_ic_ge 98 (x_at tdX12_isCalm 7 rfl) rfl (fun c => ?_) (fun c => ?_)
  · have H := H.1 c
    refine x_iload_n (x_at tdX12_isCalm 58 rfl) rfl rfl ?_
    exact x_ireturn (ty := .boolean) rfl H.1.1 (x_at tdX12_isCalm 59 rfl) ⟨_, rfl, H.2⟩
  · have H := H.2 c
    refine x_iconst (x_at tdX12_isCalm 8 rfl) k_c_0 ?_
    refine x_istore_n (x_at tdX12_isCalm 9 rfl) rfl (by decide) ?_
    refine x_weak (lv' := [(0, .ref (x_ad (gM h) 0)), (1, .int x1), (2, .int x2), (3, .int 0)]) ⟨rfl, rfl, rfl, rfl, trivial⟩ ?_
    exact H
theorem b_M_isCalm_14 {h : xH} {d : Nat}  {x1 : Int32} {x2 : Int32} {x3 : Int32} {S : xSt} {K : Int32 → xSt → Prop}  (H : ((x2 ≤ x3 → B_M_isCalm_4 h d x1 (x2 + 1) S K) ∧ (¬ x2 ≤ x3 → ((x1 = 0 → B_M_isCalm_84 h d x2 x3 S K) ∧ (¬ x1 = 0 → M_M_isTold h d x2 x3 S (fun (r1 : Int32) (S1 : xSt) => ((r1 = 0 → B_M_isCalm_80 h d x2 x3 S1 K) ∧ (¬ r1 = 0 → (vp_in x2 6 ∧ (((S1.1 44 (x2 : Int32).toNatClampNeg) = x3 → B_M_isCalm_80 h d x2 x3 S1 K) ∧ (¬ (S1.1 44 (x2 : Int32).toNatClampNeg) = x3 → (vp_in (((6 : Int32) * x2) + x3) 36 ∧ M_M_has h d x2 S1 (fun (r2 : Int32) (S2 : xSt) => (((S1.1 19 ((((6 : Int32) * x2) + x3) : Int32).toNatClampNeg) ≤ r2 → B_M_isCalm_80 h d x2 x3 S2 K) ∧ (¬ (S1.1 19 ((((6 : Int32) * x2) + x3) : Int32).toNatClampNeg) ≤ r2 → (vp_in (((6 : Int32) * x2) + x3) 36 ∧ M_M_has h d x3 S2 (fun (r3 : Int32) (S3 : xSt) => ((r3 < (S2.1 19 ((((6 : Int32) * x2) + x3) : Int32).toNatClampNeg) → B_M_isCalm_84 h d x2 x3 S3 K) ∧ (¬ r3 < (S2.1 19 ((((6 : Int32) * x2) + x3) : Int32).toNatClampNeg) → B_M_isCalm_80 h d x2 x3 S3 K))))))))))))))))))) : B_M_isCalm_14 h d x1 x2 x3 S K := by
  unfold B_M_isCalm_14
  refine x_iload_n (x_at tdX12_isCalm 10 rfl) rfl rfl ?_
  refine x_iload_n (x_at tdX12_isCalm 11 rfl) rfl rfl ?_
  refine x_ic_ge 92 (x_at tdX12_isCalm 12 rfl) rfl (fun c => ?_) (fun c => ?_)
  · have H := H.1 c
    refine x_iinc (x_at tdX12_isCalm 56 rfl) rfl (k_inc_1 _) (by decide) ?_
    refine x_goto 4 (x_at tdX12_isCalm 57 rfl) rfl ?_
    refine x_weak (lv' := [(0, .ref (x_ad (gM h) 0)), (1, .int x1), (2, .int (x2 + 1))]) ⟨rfl, rfl, rfl, trivial⟩ ?_
    exact H
  · have H := H.2 c
    refine x_iload_n (x_at tdX12_isCalm 13 rfl) rfl rfl ?_
    refine x_if_eq 84 (x_at tdX12_isCalm 14 rfl) rfl (fun c => ?_) (fun c => ?_)
    · have H := H.1 c
      refine x_weak (lv' := [(0, .ref (x_ad (gM h) 0)), (2, .int x2), (3, .int x3)]) ⟨rfl, rfl, rfl, trivial⟩ ?_
      exact H
    · have H := H.2 c
      refine x_aload_n (x_at tdX12_isCalm 15 rfl) rfl rfl ?_
      refine x_iload_n (x_at tdX12_isCalm 16 rfl) rfl rfl ?_
      refine x_iload_n (x_at tdX12_isCalm 17 rfl) rfl rfl ?_
      refine x_cVi (as := [.int x2, .int x3]) (rest := []) mi_X12_isTold vc_12 (lM_0 h) (x_at tdX12_isCalm 18 rfl) wm_X12_564 rfl (Nat.le_of_ble_eq_true rfl) rfl H (fun r1 S1 H => ?_)
      refine x_if_eq 80 (x_at tdX12_isCalm 19 rfl) rfl (fun c => ?_) (fun c => ?_)
      · have H := H.1 c
        refine x_weak (lv' := [(0, .ref (x_ad (gM h) 0)), (2, .int x2), (3, .int x3)]) ⟨rfl, rfl, rfl, trivial⟩ ?_
        exact H
      · have H := H.2 c
        refine x_aload_n (x_at tdX12_isCalm 20 rfl) rfl rfl ?_
        refine gfM_0_87 (x_at tdX12_isCalm 21 rfl) wf_X12_148 ?_
        refine x_iload_n (x_at tdX12_isCalm 22 rfl) rfl rfl ?_
        refine x_iald (lM_44 h) (x_at tdX12_isCalm 23 rfl) H.1 ?_
        have H := H.2
        refine x_iload_n (x_at tdX12_isCalm 24 rfl) rfl rfl ?_
        refine x_ic_eq 80 (x_at tdX12_isCalm 25 rfl) rfl (fun c => ?_) (fun c => ?_)
        · have H := H.1 c
          refine x_weak (lv' := [(0, .ref (x_ad (gM h) 0)), (2, .int x2), (3, .int x3)]) ⟨rfl, rfl, rfl, trivial⟩ ?_
          exact H
        · have H := H.2 c
          refine x_aload_n (x_at tdX12_isCalm 26 rfl) rfl rfl ?_
          refine gfM_0_34 (x_at tdX12_isCalm 27 rfl) wf_X12_69 ?_
          refine x_bipush (x_at tdX12_isCalm 28 rfl) k_b_6 ?_
          refine x_iload_n (x_at tdX12_isCalm 29 rfl) rfl rfl ?_
          refine x_imul (x_at tdX12_isCalm 30 rfl) ?_
          refine x_iload_n (x_at tdX12_isCalm 31 rfl) rfl rfl ?_
          refine x_iadd (x_at tdX12_isCalm 32 rfl) ?_
          refine x_iald (lM_19 h) (x_at tdX12_isCalm 33 rfl) H.1 ?_
          have H := H.2
          refine x_aload_n (x_at tdX12_isCalm 34 rfl) rfl rfl ?_
          refine x_iload_n (x_at tdX12_isCalm 35 rfl) rfl rfl ?_
          refine x_cVi (as := [.int x2]) (rest := [.int (S1.1 19 ((((6 : Int32) * x2) + x3) : Int32).toNatClampNeg)]) mi_X12_has vc_12 (lM_0 h) (x_at tdX12_isCalm 36 rfl) wm_X12_573 rfl (Nat.le_of_ble_eq_true rfl) rfl H (fun r2 S2 H => ?_)
          refine x_ic_le 80 (x_at tdX12_isCalm 37 rfl) rfl (fun c => ?_) (fun c => ?_)
          · have H := H.1 c
            refine x_weak (lv' := [(0, .ref (x_ad (gM h) 0)), (2, .int x2), (3, .int x3)]) ⟨rfl, rfl, rfl, trivial⟩ ?_
            exact H
          · have H := H.2 c
            refine x_aload_n (x_at tdX12_isCalm 38 rfl) rfl rfl ?_
            refine gfM_0_34 (x_at tdX12_isCalm 39 rfl) wf_X12_69 ?_
            refine x_bipush (x_at tdX12_isCalm 40 rfl) k_b_6 ?_
            refine x_iload_n (x_at tdX12_isCalm 41 rfl) rfl rfl ?_
            refine x_imul (x_at tdX12_isCalm 42 rfl) ?_
            refine x_iload_n (x_at tdX12_isCalm 43 rfl) rfl rfl ?_
            refine x_iadd (x_at tdX12_isCalm 44 rfl) ?_
            refine x_iald (lM_19 h) (x_at tdX12_isCalm 45 rfl) H.1 ?_
            have H := H.2
            refine x_aload_n (x_at tdX12_isCalm 46 rfl) rfl rfl ?_
            refine x_iload_n (x_at tdX12_isCalm 47 rfl) rfl rfl ?_
            refine x_cVi (as := [.int x3]) (rest := [.int (S2.1 19 ((((6 : Int32) * x2) + x3) : Int32).toNatClampNeg)]) mi_X12_has vc_12 (lM_0 h) (x_at tdX12_isCalm 48 rfl) wm_X12_573 rfl (Nat.le_of_ble_eq_true rfl) rfl H (fun r3 S3 H => ?_)
            refine x_ic_gt 84 (x_at tdX12_isCalm 49 rfl) rfl (fun c => ?_) (fun c => ?_)
            · have H := H.1 c
              refine x_weak (lv' := [(0, .ref (x_ad (gM h) 0)), (2, .int x2), (3, .int x3)]) ⟨rfl, rfl, rfl, trivial⟩ ?_
              exact H
            · have H := H.2 c
              refine x_weak (lv' := [(0, .ref (x_ad (gM h) 0)), (2, .int x2), (3, .int x3)]) ⟨rfl, rfl, rfl, trivial⟩ ?_
              exact H
theorem b_M_isCalm_80 {h : xH} {d : Nat}  {x2 : Int32} {x3 : Int32} {S : xSt} {K : Int32 → xSt → Prop}  (H : B_M_isCalm_85 h d x2 x3 1 S K) : B_M_isCalm_80 h d x2 x3 S K := by
  unfold B_M_isCalm_80
  refine x_iconst (x_at tdX12_isCalm 50 rfl) k_c_1 ?_
  refine x_goto 85 (x_at tdX12_isCalm 51 rfl) rfl ?_
  refine x_weak (lv' := [(0, .ref (x_ad (gM h) 0)), (2, .int x2), (3, .int x3)]) ⟨rfl, rfl, rfl, trivial⟩ ?_
  exact H
theorem b_M_isCalm_84 {h : xH} {d : Nat}  {x2 : Int32} {x3 : Int32} {S : xSt} {K : Int32 → xSt → Prop}  (H : B_M_isCalm_85 h d x2 x3 0 S K) : B_M_isCalm_84 h d x2 x3 S K := by
  unfold B_M_isCalm_84
  refine x_iconst (x_at tdX12_isCalm 52 rfl) k_c_0 ?_
  refine x_weak (lv' := [(0, .ref (x_ad (gM h) 0)), (2, .int x2), (3, .int x3)]) ⟨rfl, rfl, rfl, trivial⟩ ?_
  exact H
theorem b_M_isCalm_85 {h : xH} {d : Nat}  {x2 : Int32} {x3 : Int32} {s0 : Int32} {S : xSt} {K : Int32 → xSt → Prop}  (H : B_M_isCalm_14 h d s0 x2 (x3 + 1) S K) : B_M_isCalm_85 h d x2 x3 s0 S K := by
  unfold B_M_isCalm_85
  refine x_istore_n (x_at tdX12_isCalm 53 rfl) rfl (by decide) ?_
  refine x_iinc (x_at tdX12_isCalm 54 rfl) rfl (k_inc_1 _) (by decide) ?_
  refine x_goto 14 (x_at tdX12_isCalm 55 rfl) rfl ?_
  refine x_weak (lv' := [(0, .ref (x_ad (gM h) 0)), (1, .int s0), (2, .int x2), (3, .int (x3 + 1))]) ⟨rfl, rfl, rfl, rfl, trivial⟩ ?_
  exact H
theorem e_M_calm {h : xH} {d : Nat}  {S : xSt} {K : Int32 → xSt → Prop}  (H : M_M_rowsOf h (d + 1) (x_putI S 0 85 0) (fun (r1 : Int32) (S1 : xSt) => B_M_calm_14 h d 0 r1 0 S1 K)) : M_M_calm h d S K := by
  refine x_enter pn_X12 (Nat.le_of_ble_eq_true rfl) ?_
  show X (gM h) _ _ 0 [(0, .ref (x_ad (gM h) 0))] [] S _
  refine x_aload_n (x_at tdX12_calm 0 rfl) rfl rfl ?_
  refine x_iconst (x_at tdX12_calm 1 rfl) k_c_0 ?_
  refine pfM_0_85 (x_at tdX12_calm 2 rfl) wf_X12_450 ?_
  refine x_iconst (x_at tdX12_calm 3 rfl) k_c_0 ?_
  refine x_istore_n (x_at tdX12_calm 4 rfl) rfl (by decide) ?_
  refine x_aload_n (x_at tdX12_calm 5 rfl) rfl rfl ?_
  refine x_cVi (as := []) (rest := []) mi_X12_rowsOf vc_12 (lM_0 h) (x_at tdX12_calm 6 rfl) wm_X12_567 rfl (Nat.le_of_ble_eq_true rfl) rfl H (fun r1 S1 H => ?_)
  refine x_istore_n (x_at tdX12_calm 7 rfl) rfl (by decide) ?_
  refine x_iconst (x_at tdX12_calm 8 rfl) k_c_0 ?_
  refine x_istore_n (x_at tdX12_calm 9 rfl) rfl (by decide) ?_
  refine x_weak (lv' := [(0, .ref (x_ad (gM h) 0)), (1, .int 0), (2, .int r1), (3, .int 0)]) ⟨rfl, rfl, rfl, rfl, trivial⟩ ?_
  exact H
theorem b_M_calm_14 {h : xH} {d : Nat}  {x1 : Int32} {x2 : Int32} {x3 : Int32} {S : xSt} {K : Int32 → xSt → Prop}  (H : ((x2 ≤ x3 → K x1 S) ∧ (¬ x2 ≤ x3 → M_M_layTwos h d x3 S (fun (r1 : Int32) (S1 : xSt) => ((r1 = 0 → B_M_calm_48 h d x1 x2 x3 S1 K) ∧ (¬ r1 = 0 → M_M_isCalm h d S1 (fun (r2 : Int32) (S2 : xSt) => ((¬ r2 = 0 → ((¬ x1 = 0 → B_M_calm_45 h d x1 x2 x3 S2 K) ∧ (x1 = 0 → M_M_putTwos h (d + 1) S2 (fun (S3 : xSt) => B_M_calm_45 h d x1 x2 x3 S3 K)))) ∧ (r2 = 0 → B_M_calm_48 h d x1 x2 x3 S2 K))))))))) : B_M_calm_14 h d x1 x2 x3 S K := by
  unfold B_M_calm_14
  refine x_iload_n (x_at tdX12_calm 10 rfl) rfl rfl ?_
  refine x_iload_n (x_at tdX12_calm 11 rfl) rfl rfl ?_
  refine x_ic_ge 54 (x_at tdX12_calm 12 rfl) rfl (fun c => ?_) (fun c => ?_)
  · have H := H.1 c
    refine x_iload_n (x_at tdX12_calm 28 rfl) rfl rfl ?_
    exact x_ireturn (ty := .int) rfl rfl (x_at tdX12_calm 29 rfl) ⟨_, rfl, H⟩
  · have H := H.2 c
    refine x_aload_n (x_at tdX12_calm 13 rfl) rfl rfl ?_
    refine x_iload_n (x_at tdX12_calm 14 rfl) rfl rfl ?_
    refine x_cVi (as := [.int x3]) (rest := []) mi_X12_layTwos vc_12 (lM_0 h) (x_at tdX12_calm 15 rfl) wm_X12_570 rfl (Nat.le_of_ble_eq_true rfl) rfl H (fun r1 S1 H => ?_)
    refine x_if_eq 48 (x_at tdX12_calm 16 rfl) rfl (fun c => ?_) (fun c => ?_)
    · have H := H.1 c
      refine x_weak (lv' := [(0, .ref (x_ad (gM h) 0)), (1, .int x1), (2, .int x2), (3, .int x3)]) ⟨rfl, rfl, rfl, rfl, trivial⟩ ?_
      exact H
    · have H := H.2 c
      refine x_aload_n (x_at tdX12_calm 17 rfl) rfl rfl ?_
      refine x_cVi (as := []) (rest := []) mi_X12_isCalm vc_12 (lM_0 h) (x_at tdX12_calm 18 rfl) wm_X12_579 rfl (Nat.le_of_ble_eq_true rfl) rfl H (fun r2 S2 H => ?_)
      refine x_if_ne 37 (x_at tdX12_calm 19 rfl) rfl (fun c => ?_) (fun c => ?_)
      · have H := H.1 c
        refine x_iload_n (x_at tdX12_calm 21 rfl) rfl rfl ?_
        refine x_if_ne 45 (x_at tdX12_calm 22 rfl) rfl (fun c => ?_) (fun c => ?_)
        · have H := H.1 c
          refine x_weak (lv' := [(0, .ref (x_ad (gM h) 0)), (1, .int x1), (2, .int x2), (3, .int x3)]) ⟨rfl, rfl, rfl, rfl, trivial⟩ ?_
          exact H
        · have H := H.2 c
          refine x_aload_n (x_at tdX12_calm 23 rfl) rfl rfl ?_
          refine x_cVv (as := []) (rest := []) mi_X12_putTwos vc_12 (lM_0 h) (x_at tdX12_calm 24 rfl) wm_X12_576 rfl (Nat.le_of_ble_eq_true rfl) rfl H (fun S3 H => ?_)
          refine x_weak (lv' := [(0, .ref (x_ad (gM h) 0)), (1, .int x1), (2, .int x2), (3, .int x3)]) ⟨rfl, rfl, rfl, rfl, trivial⟩ ?_
          exact H
      · have H := H.2 c
        refine x_goto 48 (x_at tdX12_calm 20 rfl) rfl ?_
        refine x_weak (lv' := [(0, .ref (x_ad (gM h) 0)), (1, .int x1), (2, .int x2), (3, .int x3)]) ⟨rfl, rfl, rfl, rfl, trivial⟩ ?_
        exact H
theorem b_M_calm_45 {h : xH} {d : Nat}  {x1 : Int32} {x2 : Int32} {x3 : Int32} {S : xSt} {K : Int32 → xSt → Prop}  (H : B_M_calm_48 h d (x1 + 1) x2 x3 S K) : B_M_calm_45 h d x1 x2 x3 S K := by
  unfold B_M_calm_45
  refine x_iinc (x_at tdX12_calm 25 rfl) rfl (k_inc_1 _) (by decide) ?_
  refine x_weak (lv' := [(0, .ref (x_ad (gM h) 0)), (1, .int (x1 + 1)), (2, .int x2), (3, .int x3)]) ⟨rfl, rfl, rfl, rfl, trivial⟩ ?_
  exact H
theorem b_M_calm_48 {h : xH} {d : Nat}  {x1 : Int32} {x2 : Int32} {x3 : Int32} {S : xSt} {K : Int32 → xSt → Prop}  (H : B_M_calm_14 h d x1 x2 (x3 + 1) S K) : B_M_calm_48 h d x1 x2 x3 S K := by
  unfold B_M_calm_48
  refine x_iinc (x_at tdX12_calm 26 rfl) rfl (k_inc_1 _) (by decide) ?_
  refine x_goto 14 (x_at tdX12_calm 27 rfl) rfl ?_
  refine x_weak (lv' := [(0, .ref (x_ad (gM h) 0)), (1, .int x1), (2, .int x2), (3, .int (x3 + 1))]) ⟨rfl, rfl, rfl, rfl, trivial⟩ ?_
  exact H
theorem e_M_likes {h : xH} {d : Nat} {x1 : Int32} {x2 : Int32} {S : xSt} {K : Int32 → xSt → Prop}  (H : M_M_isMan h d x1 S (fun (r1 : Int32) (S1 : xSt) => ((r1 = 0 → K (-100) S1) ∧ (¬ r1 = 0 → M_M_isMan h d x2 S1 (fun (r2 : Int32) (S2 : xSt) => ((r2 = 0 → K (-100) S2) ∧ (¬ r2 = 0 → ((x1 = x2 → K (-100) S2) ∧ (¬ x1 = x2 → (vp_in (((6 : Int32) * x1) + x2) 36 ∧ K (S2.1 19 ((((6 : Int32) * x1) + x2) : Int32).toNatClampNeg) S2)))))))))) : M_M_likes h d x1 x2 S K := by
  refine x_enter pn_X12 (Nat.le_of_ble_eq_true rfl) ?_
  show X (gM h) _ _ 0 [(0, .ref (x_ad (gM h) 0)), (1, .int x1), (2, .int x2)] [] S _
  refine x_aload_n (x_at tdX12_likes 0 rfl) rfl rfl ?_
  refine x_iload_n (x_at tdX12_likes 1 rfl) rfl rfl ?_
  refine x_cVi (as := [.int x1]) (rest := []) mi_X12_isMan vc_12 (lM_0 h) (x_at tdX12_likes 2 rfl) wm_X12_460 rfl (Nat.le_of_ble_eq_true rfl) rfl H (fun r1 S1 H => ?_)
  refine x_if_eq 35 (x_at tdX12_likes 3 rfl) rfl (fun c => ?_) (fun c => ?_)
  · have H := H.1 c
    refine x_bipush (x_at tdX12_likes 20 rfl) k_b_m100 ?_
    exact x_ireturn (ty := .int) rfl rfl (x_at tdX12_likes 21 rfl) ⟨_, rfl, H⟩
  · have H := H.2 c
    refine x_aload_n (x_at tdX12_likes 4 rfl) rfl rfl ?_
    refine x_iload_n (x_at tdX12_likes 5 rfl) rfl rfl ?_
    refine x_cVi (as := [.int x2]) (rest := []) mi_X12_isMan vc_12 (lM_0 h) (x_at tdX12_likes 6 rfl) wm_X12_460 rfl (Nat.le_of_ble_eq_true rfl) rfl H (fun r2 S2 H => ?_)
    refine x_if_eq 35 (x_at tdX12_likes 7 rfl) rfl (fun c => ?_) (fun c => ?_)
    · have H := H.1 c
      refine x_bipush (x_at tdX12_likes 20 rfl) k_b_m100 ?_
      exact x_ireturn (ty := .int) rfl rfl (x_at tdX12_likes 21 rfl) ⟨_, rfl, H⟩
    · have H := H.2 c
      refine x_iload_n (x_at tdX12_likes 8 rfl) rfl rfl ?_
      refine x_iload_n (x_at tdX12_likes 9 rfl) rfl rfl ?_
      refine x_ic_eq 35 (x_at tdX12_likes 10 rfl) rfl (fun c => ?_) (fun c => ?_)
      · have H := H.1 c
        refine x_bipush (x_at tdX12_likes 20 rfl) k_b_m100 ?_
        exact x_ireturn (ty := .int) rfl rfl (x_at tdX12_likes 21 rfl) ⟨_, rfl, H⟩
      · have H := H.2 c
        refine x_aload_n (x_at tdX12_likes 11 rfl) rfl rfl ?_
        refine gfM_0_34 (x_at tdX12_likes 12 rfl) wf_X12_69 ?_
        refine x_bipush (x_at tdX12_likes 13 rfl) k_b_6 ?_
        refine x_iload_n (x_at tdX12_likes 14 rfl) rfl rfl ?_
        refine x_imul (x_at tdX12_likes 15 rfl) ?_
        refine x_iload_n (x_at tdX12_likes 16 rfl) rfl rfl ?_
        refine x_iadd (x_at tdX12_likes 17 rfl) ?_
        refine x_iald (lM_19 h) (x_at tdX12_likes 18 rfl) H.1 ?_
        have H := H.2
        refine x_goto 37 (x_at tdX12_likes 19 rfl) rfl ?_
        exact x_ireturn (ty := .int) rfl rfl (x_at tdX12_likes 21 rfl) ⟨_, rfl, H⟩
theorem e_M_lies {h : xH} {d : Nat} {x1 : Int32} {S : xSt} {K : Int32 → xSt → Prop}  (H : M_M_isIn h d x1 0 ((S.1 0 85) - (1 : Int32)) S (fun (r1 : Int32) (S1 : xSt) => ((r1 = 0 → K (-2) S1) ∧ (¬ r1 = 0 → (vp_in x1 10 ∧ K (S1.1 42 (x1 : Int32).toNatClampNeg) S1))))) : M_M_lies h d x1 S K := by
  refine x_enter pn_X12 (Nat.le_of_ble_eq_true rfl) ?_
  show X (gM h) _ _ 0 [(0, .ref (x_ad (gM h) 0)), (1, .int x1)] [] S _
  refine x_iload_n (x_at tdX12_lies 0 rfl) rfl rfl ?_
  refine x_iconst (x_at tdX12_lies 1 rfl) k_c_0 ?_
  refine x_aload_n (x_at tdX12_lies 2 rfl) rfl rfl ?_
  refine gfM_0_85 (x_at tdX12_lies 3 rfl) wf_X12_450 ?_
  refine x_iconst (x_at tdX12_lies 4 rfl) k_c_1 ?_
  refine x_isub (x_at tdX12_lies 5 rfl) ?_
  refine x_cSi (as := [.int x1, .int 0, .int ((S.1 0 85) - (1 : Int32))]) (rest := []) mi_X12_isIn (x_at tdX12_lies 6 rfl) wm_X12_453 rfl (Nat.le_of_ble_eq_true rfl) rfl H (fun r1 S1 H => ?_)
  refine x_if_eq 23 (x_at tdX12_lies 7 rfl) rfl (fun c => ?_) (fun c => ?_)
  · have H := H.1 c
    refine x_bipush (x_at tdX12_lies 13 rfl) k_b_m2 ?_
    exact x_ireturn (ty := .int) rfl rfl (x_at tdX12_lies 14 rfl) ⟨_, rfl, H⟩
  · have H := H.2 c
    refine x_aload_n (x_at tdX12_lies 8 rfl) rfl rfl ?_
    refine gfM_0_84 (x_at tdX12_lies 9 rfl) wf_X12_142 ?_
    refine x_iload_n (x_at tdX12_lies 10 rfl) rfl rfl ?_
    refine x_iald (lM_42 h) (x_at tdX12_lies 11 rfl) H.1 ?_
    have H := H.2
    refine x_goto 25 (x_at tdX12_lies 12 rfl) rfl ?_
    exact x_ireturn (ty := .int) rfl rfl (x_at tdX12_lies 14 rfl) ⟨_, rfl, H⟩
theorem e_M_tug {h : xH} {d : Nat} {x1 : Int32} {x2 : Int32} {x3 : Int32} {S : xSt} {K : Int32 → xSt → Prop}  (H : M_M_isIn h d x1 0 2 S (fun (r1 : Int32) (S1 : xSt) => ((r1 = 0 → K (-1) S1) ∧ (¬ r1 = 0 → M_M_isIn h d x2 0 9 S1 (fun (r2 : Int32) (S2 : xSt) => ((r2 = 0 → K (-1) S2) ∧ (¬ r2 = 0 → ((¬ (S2.1 0 93) = 30 → (vp_in (S2.1 0 93) 30 ∧ (vp_in (S2.1 0 93) 30 ∧ (vp_in (S2.1 0 93) 30 ∧ (vp_in (S2.1 0 93) 30 ∧ (vp_in (S2.1 0 93) 30 ∧ K (((S2.1 0 93) + (1 : Int32)) - (1 : Int32)) (x_putI (x_putI (x_putI (x_putI (x_putI (x_putI S2 45 ((S2.1 0 93) : Int32).toNatClampNeg x1) 46 ((S2.1 0 93) : Int32).toNatClampNeg x2) 49 ((S2.1 0 93) : Int32).toNatClampNeg (vp_nar .boolean x3)) 47 ((S2.1 0 93) : Int32).toNatClampNeg (S2.1 0 94)) 48 ((S2.1 0 93) : Int32).toNatClampNeg (-1)) 0 93 ((S2.1 0 93) + (1 : Int32))))))))) ∧ ((S2.1 0 93) = 30 → K (-1) S2))))))))) : M_M_tug h d x1 x2 x3 S K := by
  refine x_enter pn_X12 (Nat.le_of_ble_eq_true rfl) ?_
  show X (gM h) _ _ 0 [(0, .ref (x_ad (gM h) 0)), (1, .int x1), (2, .int x2), (3, .int x3)] [] S _
  refine x_iload_n (x_at tdX12_tug 0 rfl) rfl rfl ?_
  refine x_iconst (x_at tdX12_tug 1 rfl) k_c_0 ?_
  refine x_iconst (x_at tdX12_tug 2 rfl) k_c_2 ?_
  refine x_cSi (as := [.int x1, .int 0, .int 2]) (rest := []) mi_X12_isIn (x_at tdX12_tug 3 rfl) wm_X12_453 rfl (Nat.le_of_ble_eq_true rfl) rfl H (fun r1 S1 H => ?_)
  refine x_if_eq 28 (x_at tdX12_tug 4 rfl) rfl (fun c => ?_) (fun c => ?_)
  · have H := H.1 c
    refine x_iconst (x_at tdX12_tug 14 rfl) k_c_m1 ?_
    exact x_ireturn (ty := .int) rfl rfl (x_at tdX12_tug 15 rfl) ⟨_, rfl, H⟩
  · have H := H.2 c
    refine x_iload_n (x_at tdX12_tug 5 rfl) rfl rfl ?_
    refine x_iconst (x_at tdX12_tug 6 rfl) k_c_0 ?_
    refine x_bipush (x_at tdX12_tug 7 rfl) k_b_9 ?_
    refine x_cSi (as := [.int x2, .int 0, .int 9]) (rest := []) mi_X12_isIn (x_at tdX12_tug 8 rfl) wm_X12_453 rfl (Nat.le_of_ble_eq_true rfl) rfl H (fun r2 S2 H => ?_)
    refine x_if_eq 28 (x_at tdX12_tug 9 rfl) rfl (fun c => ?_) (fun c => ?_)
    · have H := H.1 c
      refine x_iconst (x_at tdX12_tug 14 rfl) k_c_m1 ?_
      exact x_ireturn (ty := .int) rfl rfl (x_at tdX12_tug 15 rfl) ⟨_, rfl, H⟩
    · have H := H.2 c
      refine x_aload_n (x_at tdX12_tug 10 rfl) rfl rfl ?_
      refine gfM_0_93 (x_at tdX12_tug 11 rfl) wf_X12_447 ?_
      refine x_bipush (x_at tdX12_tug 12 rfl) k_b_30 ?_
      refine x_ic_ne 30 (x_at tdX12_tug 13 rfl) rfl (fun c => ?_) (fun c => ?_)
      · have H := H.1 c
        refine x_aload_n (x_at tdX12_tug 16 rfl) rfl rfl ?_
        refine gfM_0_88 (x_at tdX12_tug 17 rfl) wf_X12_151 ?_
        refine x_aload_n (x_at tdX12_tug 18 rfl) rfl rfl ?_
        refine gfM_0_93 (x_at tdX12_tug 19 rfl) wf_X12_447 ?_
        refine x_iload_n (x_at tdX12_tug 20 rfl) rfl rfl ?_
        refine x_iast (lM_45 h) (x_at tdX12_tug 21 rfl) H.1 ?_
        have H := H.2
        refine x_aload_n (x_at tdX12_tug 22 rfl) rfl rfl ?_
        refine gfM_0_89 (x_at tdX12_tug 23 rfl) wf_X12_154 ?_
        refine x_aload_n (x_at tdX12_tug 24 rfl) rfl rfl ?_
        refine gfM_0_93 (x_at tdX12_tug 25 rfl) wf_X12_447 ?_
        refine x_top (v := (S2.1 0 93)) rfl ?_
        refine x_iload_n (x_at tdX12_tug 26 rfl) rfl rfl ?_
        refine x_iast (lM_46 h) (x_at tdX12_tug 27 rfl) H.1 ?_
        have H := H.2
        refine x_aload_n (x_at tdX12_tug 28 rfl) rfl rfl ?_
        refine gfM_0_92 (x_at tdX12_tug 29 rfl) wf_X12_163 ?_
        refine x_aload_n (x_at tdX12_tug 30 rfl) rfl rfl ?_
        refine gfM_0_93 (x_at tdX12_tug 31 rfl) wf_X12_447 ?_
        refine x_top (v := (S2.1 0 93)) rfl ?_
        refine x_iload_n (x_at tdX12_tug 32 rfl) rfl rfl ?_
        refine x_zast (lM_49 h) (x_at tdX12_tug 33 rfl) H.1 ?_
        have H := H.2
        refine x_aload_n (x_at tdX12_tug 34 rfl) rfl rfl ?_
        refine gfM_0_90 (x_at tdX12_tug 35 rfl) wf_X12_157 ?_
        refine x_aload_n (x_at tdX12_tug 36 rfl) rfl rfl ?_
        refine gfM_0_93 (x_at tdX12_tug 37 rfl) wf_X12_447 ?_
        refine x_top (v := (S2.1 0 93)) rfl ?_
        refine x_aload_n (x_at tdX12_tug 38 rfl) rfl rfl ?_
        refine gfM_0_94 (x_at tdX12_tug 39 rfl) wf_X12_582 ?_
        refine x_top (v := (S2.1 0 94)) rfl ?_
        refine x_iast (lM_47 h) (x_at tdX12_tug 40 rfl) H.1 ?_
        have H := H.2
        refine x_aload_n (x_at tdX12_tug 41 rfl) rfl rfl ?_
        refine gfM_0_91 (x_at tdX12_tug 42 rfl) wf_X12_160 ?_
        refine x_aload_n (x_at tdX12_tug 43 rfl) rfl rfl ?_
        refine gfM_0_93 (x_at tdX12_tug 44 rfl) wf_X12_447 ?_
        refine x_top (v := (S2.1 0 93)) rfl ?_
        refine x_iconst (x_at tdX12_tug 45 rfl) k_c_m1 ?_
        refine x_iast (lM_48 h) (x_at tdX12_tug 46 rfl) H.1 ?_
        have H := H.2
        refine x_aload_n (x_at tdX12_tug 47 rfl) rfl rfl ?_
        refine x_dup (x_at tdX12_tug 48 rfl) rfl ?_
        refine gfM_0_93 (x_at tdX12_tug 49 rfl) wf_X12_447 ?_
        refine x_top (v := (S2.1 0 93)) rfl ?_
        refine x_iconst (x_at tdX12_tug 50 rfl) k_c_1 ?_
        refine x_iadd (x_at tdX12_tug 51 rfl) ?_
        refine pfM_0_93 (x_at tdX12_tug 52 rfl) wf_X12_447 ?_
        refine x_aload_n (x_at tdX12_tug 53 rfl) rfl rfl ?_
        refine gfM_0_93 (x_at tdX12_tug 54 rfl) wf_X12_447 ?_
        refine x_top (v := ((S2.1 0 93) + (1 : Int32))) rfl ?_
        refine x_iconst (x_at tdX12_tug 55 rfl) k_c_1 ?_
        refine x_isub (x_at tdX12_tug 56 rfl) ?_
        exact x_ireturn (ty := .int) rfl rfl (x_at tdX12_tug 57 rfl) ⟨_, rfl, H⟩
      · have H := H.2 c
        refine x_iconst (x_at tdX12_tug 14 rfl) k_c_m1 ?_
        exact x_ireturn (ty := .int) rfl rfl (x_at tdX12_tug 15 rfl) ⟨_, rfl, H⟩
theorem e_M_untell {h : xH} {d : Nat} {x1 : Int32} {S : xSt} {K : Int32 → xSt → Prop}  (H : M_M_isIn h d x1 0 ((S.1 0 93) - (1 : Int32)) S (fun (r1 : Int32) (S1 : xSt) => ((r1 = 0 → K 0 S1) ∧ (¬ r1 = 0 → (vp_in x1 30 ∧ (((S1.1 48 (x1 : Int32).toNatClampNeg) < 0 → (vp_in x1 30 ∧ K 1 (x_putI S1 48 (x1 : Int32).toNatClampNeg (S1.1 0 94)))) ∧ (¬ (S1.1 48 (x1 : Int32).toNatClampNeg) < 0 → K 0 S1))))))) : M_M_untell h d x1 S K := by
  refine x_enter pn_X12 (Nat.le_of_ble_eq_true rfl) ?_
  show X (gM h) _ _ 0 [(0, .ref (x_ad (gM h) 0)), (1, .int x1)] [] S _
  refine x_iload_n (x_at tdX12_untell 0 rfl) rfl rfl ?_
  refine x_iconst (x_at tdX12_untell 1 rfl) k_c_0 ?_
  refine x_aload_n (x_at tdX12_untell 2 rfl) rfl rfl ?_
  refine gfM_0_93 (x_at tdX12_untell 3 rfl) wf_X12_447 ?_
  refine x_iconst (x_at tdX12_untell 4 rfl) k_c_1 ?_
  refine x_isub (x_at tdX12_untell 5 rfl) ?_
  refine x_cSi (as := [.int x1, .int 0, .int ((S.1 0 93) - (1 : Int32))]) (rest := []) mi_X12_isIn (x_at tdX12_untell 6 rfl) wm_X12_453 rfl (Nat.le_of_ble_eq_true rfl) rfl H (fun r1 S1 H => ?_)
  refine x_if_eq 23 (x_at tdX12_untell 7 rfl) rfl (fun c => ?_) (fun c => ?_)
  · have H := H.1 c
    refine x_iconst (x_at tdX12_untell 13 rfl) k_c_0 ?_
    exact x_ireturn (ty := .boolean) rfl zb0.1 (x_at tdX12_untell 14 rfl) ⟨_, rfl, H⟩
  · have H := H.2 c
    refine x_aload_n (x_at tdX12_untell 8 rfl) rfl rfl ?_
    refine gfM_0_91 (x_at tdX12_untell 9 rfl) wf_X12_160 ?_
    refine x_iload_n (x_at tdX12_untell 10 rfl) rfl rfl ?_
    refine x_iald (lM_48 h) (x_at tdX12_untell 11 rfl) H.1 ?_
    have H := H.2
    refine x_if_lt 25 (x_at tdX12_untell 12 rfl) rfl (fun c => ?_) (fun c => ?_)
    · have H := H.1 c
      refine x_aload_n (x_at tdX12_untell 15 rfl) rfl rfl ?_
      refine gfM_0_91 (x_at tdX12_untell 16 rfl) wf_X12_160 ?_
      refine x_iload_n (x_at tdX12_untell 17 rfl) rfl rfl ?_
      refine x_aload_n (x_at tdX12_untell 18 rfl) rfl rfl ?_
      refine gfM_0_94 (x_at tdX12_untell 19 rfl) wf_X12_582 ?_
      refine x_iast (lM_48 h) (x_at tdX12_untell 20 rfl) H.1 ?_
      have H := H.2
      refine x_iconst (x_at tdX12_untell 21 rfl) k_c_1 ?_
      exact x_ireturn (ty := .boolean) rfl zb1.1 (x_at tdX12_untell 22 rfl) ⟨_, rfl, H⟩
    · have H := H.2 c
      refine x_iconst (x_at tdX12_untell 13 rfl) k_c_0 ?_
      exact x_ireturn (ty := .boolean) rfl zb0.1 (x_at tdX12_untell 14 rfl) ⟨_, rfl, H⟩
theorem e_M_later {h : xH} {d : Nat} {x1 : Int32} {S : xSt} {K : Int32 → xSt → Prop}  (H : ((x1 < 0 → K (-1) S) ∧ (¬ x1 < 0 → ((1000 < x1 → K (-1) S) ∧ (¬ 1000 < x1 → ((((S.1 0 94) + x1) ≤ 100000 → K ((S.1 0 94) + x1) (x_putI S 0 94 ((S.1 0 94) + x1))) ∧ (¬ ((S.1 0 94) + x1) ≤ 100000 → K (-1) S))))))) : M_M_later h d x1 S K := by
  refine x_enter pn_X12 (Nat.le_of_ble_eq_true rfl) ?_
  show X (gM h) _ _ 0 [(0, .ref (x_ad (gM h) 0)), (1, .int x1)] [] S _
  refine x_iload_n (x_at tdX12_later 0 rfl) rfl rfl ?_
  refine x_if_lt 23 (x_at tdX12_later 1 rfl) rfl (fun c => ?_) (fun c => ?_)
  · have H := H.1 c
    refine x_iconst (x_at tdX12_later 11 rfl) k_c_m1 ?_
    exact x_ireturn (ty := .int) rfl rfl (x_at tdX12_later 12 rfl) ⟨_, rfl, H⟩
  · have H := H.2 c
    refine x_iload_n (x_at tdX12_later 2 rfl) rfl rfl ?_
    refine x_sipush (x_at tdX12_later 3 rfl) k_s_1000 ?_
    refine x_ic_gt 23 (x_at tdX12_later 4 rfl) rfl (fun c => ?_) (fun c => ?_)
    · have H := H.1 c
      refine x_iconst (x_at tdX12_later 11 rfl) k_c_m1 ?_
      exact x_ireturn (ty := .int) rfl rfl (x_at tdX12_later 12 rfl) ⟨_, rfl, H⟩
    · have H := H.2 c
      refine x_aload_n (x_at tdX12_later 5 rfl) rfl rfl ?_
      refine gfM_0_94 (x_at tdX12_later 6 rfl) wf_X12_582 ?_
      refine x_iload_n (x_at tdX12_later 7 rfl) rfl rfl ?_
      refine x_iadd (x_at tdX12_later 8 rfl) ?_
      refine x_ldcw (x_at tdX12_later 9 rfl) wk_X12_585 ?_
      refine x_ic_le 25 (x_at tdX12_later 10 rfl) rfl (fun c => ?_) (fun c => ?_)
      · have H := H.1 c
        refine x_aload_n (x_at tdX12_later 13 rfl) rfl rfl ?_
        refine x_dup (x_at tdX12_later 14 rfl) rfl ?_
        refine gfM_0_94 (x_at tdX12_later 15 rfl) wf_X12_582 ?_
        refine x_iload_n (x_at tdX12_later 16 rfl) rfl rfl ?_
        refine x_iadd (x_at tdX12_later 17 rfl) ?_
        refine pfM_0_94 (x_at tdX12_later 18 rfl) wf_X12_582 ?_
        refine x_aload_n (x_at tdX12_later 19 rfl) rfl rfl ?_
        refine gfM_0_94 (x_at tdX12_later 20 rfl) wf_X12_582 ?_
        refine x_top (v := ((S.1 0 94) + x1)) rfl ?_
        exact x_ireturn (ty := .int) rfl rfl (x_at tdX12_later 21 rfl) ⟨_, rfl, H⟩
      · have H := H.2 c
        refine x_iconst (x_at tdX12_later 11 rfl) k_c_m1 ?_
        exact x_ireturn (ty := .int) rfl rfl (x_at tdX12_later 12 rfl) ⟨_, rfl, H⟩
theorem e_M_markOf {h : xH} {d : Nat} {x1 : Int32} {x2 : Int32} {S : xSt} {K : Int32 → xSt → Prop}  (H : ((¬ x2 = 0 → ((¬ x2 = 1 → (vp_in x1 6 ∧ K (S.1 17 (x1 : Int32).toNatClampNeg) S)) ∧ (x2 = 1 → (vp_in x1 6 ∧ K (S.1 16 (x1 : Int32).toNatClampNeg) S)))) ∧ (x2 = 0 → (vp_in x1 6 ∧ K (S.1 15 (x1 : Int32).toNatClampNeg) S)))) : M_M_markOf h d x1 x2 S K := by
  refine x_enter pn_X12 (Nat.le_of_ble_eq_true rfl) ?_
  show X (gM h) _ _ 0 [(0, .ref (x_ad (gM h) 0)), (1, .int x1), (2, .int x2)] [] S _
  refine x_iload_n (x_at tdX12_markOf 0 rfl) rfl rfl ?_
  refine x_if_ne 13 (x_at tdX12_markOf 1 rfl) rfl (fun c => ?_) (fun c => ?_)
  · have H := H.1 c
    refine x_iload_n (x_at tdX12_markOf 7 rfl) rfl rfl ?_
    refine x_iconst (x_at tdX12_markOf 8 rfl) k_c_1 ?_
    refine x_ic_ne 27 (x_at tdX12_markOf 9 rfl) rfl (fun c => ?_) (fun c => ?_)
    · have H := H.1 c
      refine x_aload_n (x_at tdX12_markOf 15 rfl) rfl rfl ?_
      refine gfM_0_32 (x_at tdX12_markOf 16 rfl) wf_X12_63 ?_
      refine x_iload_n (x_at tdX12_markOf 17 rfl) rfl rfl ?_
      refine x_iald (lM_17 h) (x_at tdX12_markOf 18 rfl) H.1 ?_
      have H := H.2
      exact x_ireturn (ty := .int) rfl rfl (x_at tdX12_markOf 19 rfl) ⟨_, rfl, H⟩
    · have H := H.2 c
      refine x_aload_n (x_at tdX12_markOf 10 rfl) rfl rfl ?_
      refine gfM_0_31 (x_at tdX12_markOf 11 rfl) wf_X12_60 ?_
      refine x_iload_n (x_at tdX12_markOf 12 rfl) rfl rfl ?_
      refine x_iald (lM_16 h) (x_at tdX12_markOf 13 rfl) H.1 ?_
      have H := H.2
      refine x_goto 33 (x_at tdX12_markOf 14 rfl) rfl ?_
      exact x_ireturn (ty := .int) rfl rfl (x_at tdX12_markOf 19 rfl) ⟨_, rfl, H⟩
  · have H := H.2 c
    refine x_aload_n (x_at tdX12_markOf 2 rfl) rfl rfl ?_
    refine gfM_0_30 (x_at tdX12_markOf 3 rfl) wf_X12_57 ?_
    refine x_iload_n (x_at tdX12_markOf 4 rfl) rfl rfl ?_
    refine x_iald (lM_15 h) (x_at tdX12_markOf 5 rfl) H.1 ?_
    have H := H.2
    refine x_goto 33 (x_at tdX12_markOf 6 rfl) rfl ?_
    exact x_ireturn (ty := .int) rfl rfl (x_at tdX12_markOf 19 rfl) ⟨_, rfl, H⟩
theorem e_M_swears {h : xH} {d : Nat} {x1 : Int32} {x2 : Int32} {S : xSt} {K : Int32 → xSt → Prop}  (H : B_M_swears_5 h d x1 x2 1 0 S K) : M_M_swears h d x1 x2 S K := by
  refine x_enter pn_X12 (Nat.le_of_ble_eq_true rfl) ?_
  show X (gM h) _ _ 0 [(0, .ref (x_ad (gM h) 0)), (1, .int x1), (2, .int x2)] [] S _
  refine x_iconst (x_at tdX12_swears 0 rfl) k_c_1 ?_
  refine x_istore_n (x_at tdX12_swears 1 rfl) rfl (by decide) ?_
  refine x_iconst (x_at tdX12_swears 2 rfl) k_c_0 ?_
  refine x_istore (x_at tdX12_swears 3 rfl) (by decide) ?_
  refine x_weak (lv' := [(0, .ref (x_ad (gM h) 0)), (1, .int x1), (2, .int x2), (3, .int 1), (4, .int 0)]) ⟨rfl, rfl, rfl, rfl, rfl, trivial⟩ ?_
  exact H
theorem b_M_swears_5 {h : xH} {d : Nat}  {x1 : Int32} {x2 : Int32} {x3 : Int32} {x4 : Int32} {S : xSt} {K : Int32 → xSt → Prop}  (H : (((S.1 0 93) ≤ x4 → (zb x3 ∧ K x3 S)) ∧ (¬ (S.1 0 93) ≤ x4 → ((x3 = 0 → (zb x3 ∧ K x3 S)) ∧ (¬ x3 = 0 → (vp_in x4 30 ∧ ((x2 < (S.1 47 (x4 : Int32).toNatClampNeg) → B_M_swears_93 h d x1 x2 x3 x4 S K) ∧ (¬ x2 < (S.1 47 (x4 : Int32).toNatClampNeg) → (vp_in x4 30 ∧ (((S.1 48 (x4 : Int32).toNatClampNeg) < 0 → B_M_swears_50 h d x1 x2 x4 S K) ∧ (¬ (S.1 48 (x4 : Int32).toNatClampNeg) < 0 → (vp_in x4 30 ∧ (((S.1 48 (x4 : Int32).toNatClampNeg) ≤ x2 → B_M_swears_93 h d x1 x2 x3 x4 S K) ∧ (¬ (S.1 48 (x4 : Int32).toNatClampNeg) ≤ x2 → B_M_swears_50 h d x1 x2 x4 S K)))))))))))))) : B_M_swears_5 h d x1 x2 x3 x4 S K := by
  unfold B_M_swears_5
  refine x_iload (x_at tdX12_swears 4 rfl) rfl ?_
  refine x_aload_n (x_at tdX12_swears 5 rfl) rfl rfl ?_
  refine gfM_0_93 (x_at tdX12_swears 6 rfl) wf_X12_447 ?_
  refine x_ic_ge 99 (x_at tdX12_swears 7 rfl) rfl (fun c => ?_) (fun c => ?_)
  · have H := H.1 c
    refine x_iload_n (x_at tdX12_swears 53 rfl) rfl rfl ?_
    exact x_ireturn (ty := .boolean) rfl H.1.1 (x_at tdX12_swears 54 rfl) ⟨_, rfl, H.2⟩
  · have H := H.2 c
    refine x_iload_n (x_at tdX12_swears 8 rfl) rfl rfl ?_
    refine x_if_eq 99 (x_at tdX12_swears 9 rfl) rfl (fun c => ?_) (fun c => ?_)
    · have H := H.1 c
      refine x_iload_n (x_at tdX12_swears 53 rfl) rfl rfl ?_
      exact x_ireturn (ty := .boolean) rfl H.1.1 (x_at tdX12_swears 54 rfl) ⟨_, rfl, H.2⟩
    · have H := H.2 c
      refine x_aload_n (x_at tdX12_swears 10 rfl) rfl rfl ?_
      refine gfM_0_90 (x_at tdX12_swears 11 rfl) wf_X12_157 ?_
      refine x_iload (x_at tdX12_swears 12 rfl) rfl ?_
      refine x_iald (lM_47 h) (x_at tdX12_swears 13 rfl) H.1 ?_
      have H := H.2
      refine x_iload_n (x_at tdX12_swears 14 rfl) rfl rfl ?_
      refine x_ic_gt 93 (x_at tdX12_swears 15 rfl) rfl (fun c => ?_) (fun c => ?_)
      · have H := H.1 c
        refine x_weak (lv' := [(0, .ref (x_ad (gM h) 0)), (1, .int x1), (2, .int x2), (3, .int x3), (4, .int x4)]) ⟨rfl, rfl, rfl, rfl, rfl, trivial⟩ ?_
        exact H
      · have H := H.2 c
        refine x_aload_n (x_at tdX12_swears 16 rfl) rfl rfl ?_
        refine gfM_0_91 (x_at tdX12_swears 17 rfl) wf_X12_160 ?_
        refine x_iload (x_at tdX12_swears 18 rfl) rfl ?_
        refine x_iald (lM_48 h) (x_at tdX12_swears 19 rfl) H.1 ?_
        have H := H.2
        refine x_if_lt 50 (x_at tdX12_swears 20 rfl) rfl (fun c => ?_) (fun c => ?_)
        · have H := H.1 c
          refine x_weak (lv' := [(0, .ref (x_ad (gM h) 0)), (1, .int x1), (2, .int x2), (4, .int x4)]) ⟨rfl, rfl, rfl, rfl, trivial⟩ ?_
          exact H
        · have H := H.2 c
          refine x_aload_n (x_at tdX12_swears 21 rfl) rfl rfl ?_
          refine gfM_0_91 (x_at tdX12_swears 22 rfl) wf_X12_160 ?_
          refine x_iload (x_at tdX12_swears 23 rfl) rfl ?_
          refine x_iald (lM_48 h) (x_at tdX12_swears 24 rfl) H.1 ?_
          have H := H.2
          refine x_iload_n (x_at tdX12_swears 25 rfl) rfl rfl ?_
          refine x_ic_le 93 (x_at tdX12_swears 26 rfl) rfl (fun c => ?_) (fun c => ?_)
          · have H := H.1 c
            refine x_weak (lv' := [(0, .ref (x_ad (gM h) 0)), (1, .int x1), (2, .int x2), (3, .int x3), (4, .int x4)]) ⟨rfl, rfl, rfl, rfl, rfl, trivial⟩ ?_
            exact H
          · have H := H.2 c
            refine x_weak (lv' := [(0, .ref (x_ad (gM h) 0)), (1, .int x1), (2, .int x2), (4, .int x4)]) ⟨rfl, rfl, rfl, rfl, trivial⟩ ?_
            exact H
theorem b_M_swears_50 {h : xH} {d : Nat}  {x1 : Int32} {x2 : Int32} {x4 : Int32} {S : xSt} {K : Int32 → xSt → Prop}  (H : (vp_in x4 30 ∧ M_M_markOf h d x1 (S.1 45 (x4 : Int32).toNatClampNeg) S (fun (r1 : Int32) (S1 : xSt) => (vp_in x4 30 ∧ ((¬ r1 = (S1.1 46 (x4 : Int32).toNatClampNeg) → B_M_swears_77 h d x1 x2 x4 0 S1 K) ∧ (r1 = (S1.1 46 (x4 : Int32).toNatClampNeg) → B_M_swears_77 h d x1 x2 x4 1 S1 K)))))) : B_M_swears_50 h d x1 x2 x4 S K := by
  unfold B_M_swears_50
  refine x_aload_n (x_at tdX12_swears 27 rfl) rfl rfl ?_
  refine x_iload_n (x_at tdX12_swears 28 rfl) rfl rfl ?_
  refine x_aload_n (x_at tdX12_swears 29 rfl) rfl rfl ?_
  refine gfM_0_88 (x_at tdX12_swears 30 rfl) wf_X12_151 ?_
  refine x_iload (x_at tdX12_swears 31 rfl) rfl ?_
  refine x_iald (lM_45 h) (x_at tdX12_swears 32 rfl) H.1 ?_
  have H := H.2
  refine x_cVi (as := [.int x1, .int (S.1 45 (x4 : Int32).toNatClampNeg)]) (rest := []) mi_X12_markOf vc_12 (lM_0 h) (x_at tdX12_swears 33 rfl) wm_X12_586 rfl (Nat.le_of_ble_eq_true rfl) rfl H (fun r1 S1 H => ?_)
  refine x_aload_n (x_at tdX12_swears 34 rfl) rfl rfl ?_
  refine gfM_0_89 (x_at tdX12_swears 35 rfl) wf_X12_154 ?_
  refine x_iload (x_at tdX12_swears 36 rfl) rfl ?_
  refine x_iald (lM_46 h) (x_at tdX12_swears 37 rfl) H.1 ?_
  have H := H.2
  refine x_ic_ne 76 (x_at tdX12_swears 38 rfl) rfl (fun c => ?_) (fun c => ?_)
  · have H := H.1 c
    refine x_iconst (x_at tdX12_swears 41 rfl) k_c_0 ?_
    refine x_weak (lv' := [(0, .ref (x_ad (gM h) 0)), (1, .int x1), (2, .int x2), (4, .int x4)]) ⟨rfl, rfl, rfl, rfl, trivial⟩ ?_
    exact H
  · have H := H.2 c
    refine x_iconst (x_at tdX12_swears 39 rfl) k_c_1 ?_
    refine x_goto 77 (x_at tdX12_swears 40 rfl) rfl ?_
    refine x_weak (lv' := [(0, .ref (x_ad (gM h) 0)), (1, .int x1), (2, .int x2), (4, .int x4)]) ⟨rfl, rfl, rfl, rfl, trivial⟩ ?_
    exact H
theorem b_M_swears_77 {h : xH} {d : Nat}  {x1 : Int32} {x2 : Int32} {x4 : Int32} {s0 : Int32} {S : xSt} {K : Int32 → xSt → Prop}  (H : (vp_in x4 30 ∧ ((¬ s0 = (S.1 49 (x4 : Int32).toNatClampNeg) → B_M_swears_92 h d x1 x2 x4 0 S K) ∧ (s0 = (S.1 49 (x4 : Int32).toNatClampNeg) → B_M_swears_92 h d x1 x2 x4 1 S K)))) : B_M_swears_77 h d x1 x2 x4 s0 S K := by
  unfold B_M_swears_77
  refine x_aload_n (x_at tdX12_swears 42 rfl) rfl rfl ?_
  refine gfM_0_92 (x_at tdX12_swears 43 rfl) wf_X12_163 ?_
  refine x_iload (x_at tdX12_swears 44 rfl) rfl ?_
  refine x_zald (lM_49 h) (x_at tdX12_swears 45 rfl) H.1 ?_
  have H := H.2
  refine x_ic_ne 91 (x_at tdX12_swears 46 rfl) rfl (fun c => ?_) (fun c => ?_)
  · have H := H.1 c
    refine x_iconst (x_at tdX12_swears 49 rfl) k_c_0 ?_
    refine x_weak (lv' := [(0, .ref (x_ad (gM h) 0)), (1, .int x1), (2, .int x2), (4, .int x4)]) ⟨rfl, rfl, rfl, rfl, trivial⟩ ?_
    exact H
  · have H := H.2 c
    refine x_iconst (x_at tdX12_swears 47 rfl) k_c_1 ?_
    refine x_goto 92 (x_at tdX12_swears 48 rfl) rfl ?_
    refine x_weak (lv' := [(0, .ref (x_ad (gM h) 0)), (1, .int x1), (2, .int x2), (4, .int x4)]) ⟨rfl, rfl, rfl, rfl, trivial⟩ ?_
    exact H
theorem b_M_swears_92 {h : xH} {d : Nat}  {x1 : Int32} {x2 : Int32} {x4 : Int32} {s0 : Int32} {S : xSt} {K : Int32 → xSt → Prop}  (H : B_M_swears_93 h d x1 x2 s0 x4 S K) : B_M_swears_92 h d x1 x2 x4 s0 S K := by
  unfold B_M_swears_92
  refine x_istore_n (x_at tdX12_swears 50 rfl) rfl (by decide) ?_
  refine x_weak (lv' := [(0, .ref (x_ad (gM h) 0)), (1, .int x1), (2, .int x2), (3, .int s0), (4, .int x4)]) ⟨rfl, rfl, rfl, rfl, rfl, trivial⟩ ?_
  exact H
theorem b_M_swears_93 {h : xH} {d : Nat}  {x1 : Int32} {x2 : Int32} {x3 : Int32} {x4 : Int32} {S : xSt} {K : Int32 → xSt → Prop}  (H : B_M_swears_5 h d x1 x2 x3 (x4 + 1) S K) : B_M_swears_93 h d x1 x2 x3 x4 S K := by
  unfold B_M_swears_93
  refine x_iinc (x_at tdX12_swears 51 rfl) rfl (k_inc_1 _) (by decide) ?_
  refine x_goto 5 (x_at tdX12_swears 52 rfl) rfl ?_
  refine x_weak (lv' := [(0, .ref (x_ad (gM h) 0)), (1, .int x1), (2, .int x2), (3, .int x3), (4, .int (x4 + 1))]) ⟨rfl, rfl, rfl, rfl, rfl, trivial⟩ ?_
  exact H
theorem e_M_swore {h : xH} {d : Nat} {x1 : Int32} {S : xSt} {K : Int32 → xSt → Prop}  (H : B_M_swore_4 h d x1 0 0 S K) : M_M_swore h d x1 S K := by
  refine x_enter pn_X12 (Nat.le_of_ble_eq_true rfl) ?_
  show X (gM h) _ _ 0 [(0, .ref (x_ad (gM h) 0)), (1, .int x1)] [] S _
  refine x_iconst (x_at tdX12_swore 0 rfl) k_c_0 ?_
  refine x_istore_n (x_at tdX12_swore 1 rfl) rfl (by decide) ?_
  refine x_iconst (x_at tdX12_swore 2 rfl) k_c_0 ?_
  refine x_istore_n (x_at tdX12_swore 3 rfl) rfl (by decide) ?_
  refine x_weak (lv' := [(0, .ref (x_ad (gM h) 0)), (1, .int x1), (2, .int 0), (3, .int 0)]) ⟨rfl, rfl, rfl, rfl, trivial⟩ ?_
  exact H
theorem b_M_swore_4 {h : xH} {d : Nat}  {x1 : Int32} {x2 : Int32} {x3 : Int32} {S : xSt} {K : Int32 → xSt → Prop}  (H : (((S.1 0 56) ≤ x3 → K x2 S) ∧ (¬ (S.1 0 56) ≤ x3 → M_M_swears h d x3 x1 S (fun (r1 : Int32) (S1 : xSt) => M_M_truth h (d + 1) r1 S1 (fun (r2 : Int32) (S2 : xSt) => B_M_swore_4 h d x1 (x2 ||| (r2 <<< (x3 &&& 31))) (x3 + 1) S2 K))))) : B_M_swore_4 h d x1 x2 x3 S K := by
  unfold B_M_swore_4
  refine x_iload_n (x_at tdX12_swore 4 rfl) rfl rfl ?_
  refine x_aload_n (x_at tdX12_swore 5 rfl) rfl rfl ?_
  refine gfM_0_56 (x_at tdX12_swore 6 rfl) wf_X12_423 ?_
  refine x_ic_ge 32 (x_at tdX12_swore 7 rfl) rfl (fun c => ?_) (fun c => ?_)
  · have H := H.1 c
    refine x_iload_n (x_at tdX12_swore 20 rfl) rfl rfl ?_
    exact x_ireturn (ty := .int) rfl rfl (x_at tdX12_swore 21 rfl) ⟨_, rfl, H⟩
  · have H := H.2 c
    refine x_iload_n (x_at tdX12_swore 8 rfl) rfl rfl ?_
    refine x_aload_n (x_at tdX12_swore 9 rfl) rfl rfl ?_
    refine x_iload_n (x_at tdX12_swore 10 rfl) rfl rfl ?_
    refine x_iload_n (x_at tdX12_swore 11 rfl) rfl rfl ?_
    refine x_cVi (as := [.int x3, .int x1]) (rest := [.int x2]) mi_X12_swears vc_12 (lM_0 h) (x_at tdX12_swore 12 rfl) wm_X12_589 rfl (Nat.le_of_ble_eq_true rfl) rfl H (fun r1 S1 H => ?_)
    refine x_cSi (as := [.int r1]) (rest := [.int x2]) mi_X12_truth (x_at tdX12_swore 13 rfl) wm_X12_344 rfl (Nat.le_of_ble_eq_true rfl) rfl H (fun r2 S2 H => ?_)
    refine x_iload_n (x_at tdX12_swore 14 rfl) rfl rfl ?_
    refine x_ishl (x_at tdX12_swore 15 rfl) ?_
    refine x_ior (x_at tdX12_swore 16 rfl) ?_
    refine x_istore_n (x_at tdX12_swore 17 rfl) rfl (by decide) ?_
    refine x_iinc (x_at tdX12_swore 18 rfl) rfl (k_inc_1 _) (by decide) ?_
    refine x_goto 4 (x_at tdX12_swore 19 rfl) rfl ?_
    refine x_weak (lv' := [(0, .ref (x_ad (gM h) 0)), (1, .int x1), (2, .int (x2 ||| (r2 <<< (x3 &&& 31)))), (3, .int (x3 + 1))]) ⟨rfl, rfl, rfl, rfl, trivial⟩ ?_
    exact H
theorem e_M_mostLeft {h : xH} {d : Nat} {x1 : Int32} {x2 : Int32} {S : xSt} {K : Int32 → xSt → Prop}  (H : B_M_mostLeft_5 h d x1 x2 0 0 S K) : M_M_mostLeft h d x1 x2 S K := by
  refine x_enter pn_X12 (Nat.le_of_ble_eq_true rfl) ?_
  show X (gM h) _ _ 0 [(0, .ref (x_ad (gM h) 0)), (1, .int x1), (2, .int x2)] [] S _
  refine x_iconst (x_at tdX12_mostLeft 0 rfl) k_c_0 ?_
  refine x_istore_n (x_at tdX12_mostLeft 1 rfl) rfl (by decide) ?_
  refine x_iconst (x_at tdX12_mostLeft 2 rfl) k_c_0 ?_
  refine x_istore (x_at tdX12_mostLeft 3 rfl) (by decide) ?_
  refine x_weak (lv' := [(0, .ref (x_ad (gM h) 0)), (1, .int x1), (2, .int x2), (3, .int 0), (4, .int 0)]) ⟨rfl, rfl, rfl, rfl, rfl, trivial⟩ ?_
  exact H
theorem b_M_mostLeft_5 {h : xH} {d : Nat}  {x1 : Int32} {x2 : Int32} {x3 : Int32} {x4 : Int32} {S : xSt} {K : Int32 → xSt → Prop}  (H : ((9 < x4 → K x3 S) ∧ (¬ 9 < x4 → B_M_mostLeft_18 h d x1 x2 x3 x4 0 0 S K))) : B_M_mostLeft_5 h d x1 x2 x3 x4 S K := by
  unfold B_M_mostLeft_5
  refine x_iload (x_at tdX12_mostLeft 4 rfl) rfl ?_
  refine x_bipush (x_at tdX12_mostLeft 5 rfl) k_b_9 ?_
  refine x_ic_gt 87 (x_at tdX12_mostLeft 6 rfl) rfl (fun c => ?_) (fun c => ?_)
  · have H := H.1 c
    refine x_iload_n (x_at tdX12_mostLeft 46 rfl) rfl rfl ?_
    exact x_ireturn (ty := .int) rfl rfl (x_at tdX12_mostLeft 47 rfl) ⟨_, rfl, H⟩
  · have H := H.2 c
    refine x_iconst (x_at tdX12_mostLeft 7 rfl) k_c_0 ?_
    refine x_istore (x_at tdX12_mostLeft 8 rfl) (by decide) ?_
    refine x_iconst (x_at tdX12_mostLeft 9 rfl) k_c_0 ?_
    refine x_istore (x_at tdX12_mostLeft 10 rfl) (by decide) ?_
    refine x_weak (lv' := [(0, .ref (x_ad (gM h) 0)), (1, .int x1), (2, .int x2), (3, .int x3), (4, .int x4), (5, .int 0), (6, .int 0)]) ⟨rfl, rfl, rfl, rfl, rfl, rfl, rfl, trivial⟩ ?_
    exact H
theorem b_M_mostLeft_18 {h : xH} {d : Nat}  {x1 : Int32} {x2 : Int32} {x3 : Int32} {x4 : Int32} {x5 : Int32} {x6 : Int32} {S : xSt} {K : Int32 → xSt → Prop}  (H : (((S.1 0 56) ≤ x6 → ((x5 ≤ x3 → B_M_mostLeft_80 h d x1 x2 x4 x3 S K) ∧ (¬ x5 ≤ x3 → B_M_mostLeft_80 h d x1 x2 x4 x5 S K))) ∧ (¬ (S.1 0 56) ≤ x6 → ((¬ ((x1 >>> (x6 &&& 31)) &&& (1 : Int32)) = 1 → B_M_mostLeft_55 h d x1 x2 x3 x4 x6 x5 S K) ∧ (((x1 >>> (x6 &&& 31)) &&& (1 : Int32)) = 1 → M_M_markOf h d x6 x2 S (fun (r1 : Int32) (S1 : xSt) => ((¬ r1 = x4 → B_M_mostLeft_55 h d x1 x2 x3 x4 x6 x5 S1 K) ∧ (r1 = x4 → B_M_mostLeft_56 h d x1 x2 x3 x4 x6 1 x5 S1 K)))))))) : B_M_mostLeft_18 h d x1 x2 x3 x4 x5 x6 S K := by
  unfold B_M_mostLeft_18
  refine x_iload (x_at tdX12_mostLeft 11 rfl) rfl ?_
  refine x_aload_n (x_at tdX12_mostLeft 12 rfl) rfl rfl ?_
  refine gfM_0_56 (x_at tdX12_mostLeft 13 rfl) wf_X12_423 ?_
  refine x_ic_ge 68 (x_at tdX12_mostLeft 14 rfl) rfl (fun c => ?_) (fun c => ?_)
  · have H := H.1 c
    refine x_iload (x_at tdX12_mostLeft 37 rfl) rfl ?_
    refine x_iload_n (x_at tdX12_mostLeft 38 rfl) rfl rfl ?_
    refine x_ic_le 79 (x_at tdX12_mostLeft 39 rfl) rfl (fun c => ?_) (fun c => ?_)
    · have H := H.1 c
      refine x_iload_n (x_at tdX12_mostLeft 42 rfl) rfl rfl ?_
      refine x_weak (lv' := [(0, .ref (x_ad (gM h) 0)), (1, .int x1), (2, .int x2), (4, .int x4)]) ⟨rfl, rfl, rfl, rfl, trivial⟩ ?_
      exact H
    · have H := H.2 c
      refine x_iload (x_at tdX12_mostLeft 40 rfl) rfl ?_
      refine x_goto 80 (x_at tdX12_mostLeft 41 rfl) rfl ?_
      refine x_weak (lv' := [(0, .ref (x_ad (gM h) 0)), (1, .int x1), (2, .int x2), (4, .int x4)]) ⟨rfl, rfl, rfl, rfl, trivial⟩ ?_
      exact H
  · have H := H.2 c
    refine x_iload (x_at tdX12_mostLeft 15 rfl) rfl ?_
    refine x_iload_n (x_at tdX12_mostLeft 16 rfl) rfl rfl ?_
    refine x_iload (x_at tdX12_mostLeft 17 rfl) rfl ?_
    refine x_ishr (x_at tdX12_mostLeft 18 rfl) ?_
    refine x_iconst (x_at tdX12_mostLeft 19 rfl) k_c_1 ?_
    refine x_iand (x_at tdX12_mostLeft 20 rfl) ?_
    refine x_iconst (x_at tdX12_mostLeft 21 rfl) k_c_1 ?_
    refine x_ic_ne 55 (x_at tdX12_mostLeft 22 rfl) rfl (fun c => ?_) (fun c => ?_)
    · have H := H.1 c
      refine x_weak (lv' := [(0, .ref (x_ad (gM h) 0)), (1, .int x1), (2, .int x2), (3, .int x3), (4, .int x4), (6, .int x6)]) ⟨rfl, rfl, rfl, rfl, rfl, rfl, trivial⟩ ?_
      exact H
    · have H := H.2 c
      refine x_aload_n (x_at tdX12_mostLeft 23 rfl) rfl rfl ?_
      refine x_iload (x_at tdX12_mostLeft 24 rfl) rfl ?_
      refine x_iload_n (x_at tdX12_mostLeft 25 rfl) rfl rfl ?_
      refine x_cVi (as := [.int x6, .int x2]) (rest := [.int x5]) mi_X12_markOf vc_12 (lM_0 h) (x_at tdX12_mostLeft 26 rfl) wm_X12_586 rfl (Nat.le_of_ble_eq_true rfl) rfl H (fun r1 S1 H => ?_)
      refine x_iload (x_at tdX12_mostLeft 27 rfl) rfl ?_
      refine x_ic_ne 55 (x_at tdX12_mostLeft 28 rfl) rfl (fun c => ?_) (fun c => ?_)
      · have H := H.1 c
        refine x_weak (lv' := [(0, .ref (x_ad (gM h) 0)), (1, .int x1), (2, .int x2), (3, .int x3), (4, .int x4), (6, .int x6)]) ⟨rfl, rfl, rfl, rfl, rfl, rfl, trivial⟩ ?_
        exact H
      · have H := H.2 c
        refine x_iconst (x_at tdX12_mostLeft 29 rfl) k_c_1 ?_
        refine x_goto 56 (x_at tdX12_mostLeft 30 rfl) rfl ?_
        refine x_weak (lv' := [(0, .ref (x_ad (gM h) 0)), (1, .int x1), (2, .int x2), (3, .int x3), (4, .int x4), (6, .int x6)]) ⟨rfl, rfl, rfl, rfl, rfl, rfl, trivial⟩ ?_
        exact H
theorem b_M_mostLeft_55 {h : xH} {d : Nat}  {x1 : Int32} {x2 : Int32} {x3 : Int32} {x4 : Int32} {x6 : Int32} {s0 : Int32} {S : xSt} {K : Int32 → xSt → Prop}  (H : B_M_mostLeft_56 h d x1 x2 x3 x4 x6 0 s0 S K) : B_M_mostLeft_55 h d x1 x2 x3 x4 x6 s0 S K := by
  unfold B_M_mostLeft_55
  refine x_iconst (x_at tdX12_mostLeft 31 rfl) k_c_0 ?_
  refine x_weak (lv' := [(0, .ref (x_ad (gM h) 0)), (1, .int x1), (2, .int x2), (3, .int x3), (4, .int x4), (6, .int x6)]) ⟨rfl, rfl, rfl, rfl, rfl, rfl, trivial⟩ ?_
  exact H
theorem b_M_mostLeft_56 {h : xH} {d : Nat}  {x1 : Int32} {x2 : Int32} {x3 : Int32} {x4 : Int32} {x6 : Int32} {s0 : Int32} {s1 : Int32} {S : xSt} {K : Int32 → xSt → Prop}  (H : M_M_truth h d s0 S (fun (r1 : Int32) (S1 : xSt) => B_M_mostLeft_18 h d x1 x2 x3 x4 (s1 + r1) (x6 + 1) S1 K)) : B_M_mostLeft_56 h d x1 x2 x3 x4 x6 s0 s1 S K := by
  unfold B_M_mostLeft_56
  refine x_cSi (as := [.int s0]) (rest := [.int s1]) mi_X12_truth (x_at tdX12_mostLeft 32 rfl) wm_X12_344 rfl (Nat.le_of_ble_eq_true rfl) rfl H (fun r1 S1 H => ?_)
  refine x_iadd (x_at tdX12_mostLeft 33 rfl) ?_
  refine x_istore (x_at tdX12_mostLeft 34 rfl) (by decide) ?_
  refine x_iinc (x_at tdX12_mostLeft 35 rfl) rfl (k_inc_1 _) (by decide) ?_
  refine x_goto 18 (x_at tdX12_mostLeft 36 rfl) rfl ?_
  refine x_weak (lv' := [(0, .ref (x_ad (gM h) 0)), (1, .int x1), (2, .int x2), (3, .int x3), (4, .int x4), (5, .int (s1 + r1)), (6, .int (x6 + 1))]) ⟨rfl, rfl, rfl, rfl, rfl, rfl, rfl, trivial⟩ ?_
  exact H
theorem b_M_mostLeft_80 {h : xH} {d : Nat}  {x1 : Int32} {x2 : Int32} {x4 : Int32} {s0 : Int32} {S : xSt} {K : Int32 → xSt → Prop}  (H : B_M_mostLeft_5 h d x1 x2 s0 (x4 + 1) S K) : B_M_mostLeft_80 h d x1 x2 x4 s0 S K := by
  unfold B_M_mostLeft_80
  refine x_istore_n (x_at tdX12_mostLeft 43 rfl) rfl (by decide) ?_
  refine x_iinc (x_at tdX12_mostLeft 44 rfl) rfl (k_inc_1 _) (by decide) ?_
  refine x_goto 5 (x_at tdX12_mostLeft 45 rfl) rfl ?_
  refine x_weak (lv' := [(0, .ref (x_ad (gM h) 0)), (1, .int x1), (2, .int x2), (3, .int s0), (4, .int (x4 + 1))]) ⟨rfl, rfl, rfl, rfl, rfl, trivial⟩ ?_
  exact H
theorem e_M_ask {h : xH} {d : Nat} {x1 : Int32} {x2 : Int32} {S : xSt} {K : Int32 → xSt → Prop}  (H : M_M_swore h d x2 S (fun (r1 : Int32) (S1 : xSt) => M_M_isIn h (d + 2) x1 0 1 S1 (fun (r2 : Int32) (S2 : xSt) => ((r2 = 0 → K (-1) S2) ∧ (¬ r2 = 0 → ((¬ r1 = 0 → B_M_ask_27 h d x1 r1 0 1 S2 K) ∧ (r1 = 0 → K (-1) S2))))))) : M_M_ask h d x1 x2 S K := by
  refine x_enter pn_X12 (Nat.le_of_ble_eq_true rfl) ?_
  show X (gM h) _ _ 0 [(0, .ref (x_ad (gM h) 0)), (1, .int x1), (2, .int x2)] [] S _
  refine x_aload_n (x_at tdX12_ask 0 rfl) rfl rfl ?_
  refine x_iload_n (x_at tdX12_ask 1 rfl) rfl rfl ?_
  refine x_cVi (as := [.int x2]) (rest := []) mi_X12_swore vc_12 (lM_0 h) (x_at tdX12_ask 2 rfl) wm_X12_592 rfl (Nat.le_of_ble_eq_true rfl) rfl H (fun r1 S1 H => ?_)
  refine x_istore_n (x_at tdX12_ask 3 rfl) rfl (by decide) ?_
  refine x_iload_n (x_at tdX12_ask 4 rfl) rfl rfl ?_
  refine x_iconst (x_at tdX12_ask 5 rfl) k_c_0 ?_
  refine x_iconst (x_at tdX12_ask 6 rfl) k_c_1 ?_
  refine x_cSi (as := [.int x1, .int 0, .int 1]) (rest := []) mi_X12_isIn (x_at tdX12_ask 7 rfl) wm_X12_453 rfl (Nat.le_of_ble_eq_true rfl) rfl H (fun r2 S2 H => ?_)
  refine x_if_eq 19 (x_at tdX12_ask 8 rfl) rfl (fun c => ?_) (fun c => ?_)
  · have H := H.1 c
    refine x_iconst (x_at tdX12_ask 11 rfl) k_c_m1 ?_
    exact x_ireturn (ty := .int) rfl rfl (x_at tdX12_ask 12 rfl) ⟨_, rfl, H⟩
  · have H := H.2 c
    refine x_iload_n (x_at tdX12_ask 9 rfl) rfl rfl ?_
    refine x_if_ne 21 (x_at tdX12_ask 10 rfl) rfl (fun c => ?_) (fun c => ?_)
    · have H := H.1 c
      refine x_iconst (x_at tdX12_ask 13 rfl) k_c_0 ?_
      refine x_istore (x_at tdX12_ask 14 rfl) (by decide) ?_
      refine x_iconst (x_at tdX12_ask 15 rfl) k_c_1 ?_
      refine x_istore (x_at tdX12_ask 16 rfl) (by decide) ?_
      refine x_weak (lv' := [(0, .ref (x_ad (gM h) 0)), (1, .int x1), (3, .int r1), (4, .int 0), (5, .int 1)]) ⟨rfl, rfl, rfl, rfl, rfl, trivial⟩ ?_
      exact H
    · have H := H.2 c
      refine x_iconst (x_at tdX12_ask 11 rfl) k_c_m1 ?_
      exact x_ireturn (ty := .int) rfl rfl (x_at tdX12_ask 12 rfl) ⟨_, rfl, H⟩
theorem b_M_ask_27 {h : xH} {d : Nat}  {x1 : Int32} {x3 : Int32} {x4 : Int32} {x5 : Int32} {S : xSt} {K : Int32 → xSt → Prop}  (H : ((3 ≤ x5 → ((¬ x1 = 0 → M_M_mostLeft h (d + 1) x3 x4 S (fun (r1 : Int32) (S1 : xSt) => K r1 S1)) ∧ (x1 = 0 → K x4 S))) ∧ (¬ 3 ≤ x5 → M_M_mostLeft h (d + 1) x3 x5 S (fun (r2 : Int32) (S2 : xSt) => M_M_mostLeft h (d + 1) x3 x4 S2 (fun (r3 : Int32) (S3 : xSt) => ((r3 ≤ r2 → B_M_ask_57 h d x1 x3 x5 x4 S3 K) ∧ (¬ r3 ≤ r2 → B_M_ask_57 h d x1 x3 x5 x5 S3 K))))))) : B_M_ask_27 h d x1 x3 x4 x5 S K := by
  unfold B_M_ask_27
  refine x_iload (x_at tdX12_ask 17 rfl) rfl ?_
  refine x_iconst (x_at tdX12_ask 18 rfl) k_c_3 ?_
  refine x_ic_ge 65 (x_at tdX12_ask 19 rfl) rfl (fun c => ?_) (fun c => ?_)
  · have H := H.1 c
    refine x_iload_n (x_at tdX12_ask 35 rfl) rfl rfl ?_
    refine x_if_ne 74 (x_at tdX12_ask 36 rfl) rfl (fun c => ?_) (fun c => ?_)
    · have H := H.1 c
      refine x_aload_n (x_at tdX12_ask 39 rfl) rfl rfl ?_
      refine x_iload_n (x_at tdX12_ask 40 rfl) rfl rfl ?_
      refine x_iload (x_at tdX12_ask 41 rfl) rfl ?_
      refine x_cVi (as := [.int x3, .int x4]) (rest := []) mi_X12_mostLeft vc_12 (lM_0 h) (x_at tdX12_ask 42 rfl) wm_X12_595 rfl (Nat.le_of_ble_eq_true rfl) rfl H (fun r1 S1 H => ?_)
      exact x_ireturn (ty := .int) rfl rfl (x_at tdX12_ask 43 rfl) ⟨_, rfl, H⟩
    · have H := H.2 c
      refine x_iload (x_at tdX12_ask 37 rfl) rfl ?_
      refine x_goto 81 (x_at tdX12_ask 38 rfl) rfl ?_
      exact x_ireturn (ty := .int) rfl rfl (x_at tdX12_ask 43 rfl) ⟨_, rfl, H⟩
  · have H := H.2 c
    refine x_aload_n (x_at tdX12_ask 20 rfl) rfl rfl ?_
    refine x_iload_n (x_at tdX12_ask 21 rfl) rfl rfl ?_
    refine x_iload (x_at tdX12_ask 22 rfl) rfl ?_
    refine x_cVi (as := [.int x3, .int x5]) (rest := []) mi_X12_mostLeft vc_12 (lM_0 h) (x_at tdX12_ask 23 rfl) wm_X12_595 rfl (Nat.le_of_ble_eq_true rfl) rfl H (fun r2 S2 H => ?_)
    refine x_aload_n (x_at tdX12_ask 24 rfl) rfl rfl ?_
    refine x_iload_n (x_at tdX12_ask 25 rfl) rfl rfl ?_
    refine x_iload (x_at tdX12_ask 26 rfl) rfl ?_
    refine x_cVi (as := [.int x3, .int x4]) (rest := [.int r2]) mi_X12_mostLeft vc_12 (lM_0 h) (x_at tdX12_ask 27 rfl) wm_X12_595 rfl (Nat.le_of_ble_eq_true rfl) rfl H (fun r3 S3 H => ?_)
    refine x_ic_ge 55 (x_at tdX12_ask 28 rfl) rfl (fun c => ?_) (fun c => ?_)
    · have H := H.1 c
      refine x_iload (x_at tdX12_ask 31 rfl) rfl ?_
      refine x_weak (lv' := [(0, .ref (x_ad (gM h) 0)), (1, .int x1), (3, .int x3), (5, .int x5)]) ⟨rfl, rfl, rfl, rfl, trivial⟩ ?_
      exact H
    · have H := H.2 c
      refine x_iload (x_at tdX12_ask 29 rfl) rfl ?_
      refine x_goto 57 (x_at tdX12_ask 30 rfl) rfl ?_
      refine x_weak (lv' := [(0, .ref (x_ad (gM h) 0)), (1, .int x1), (3, .int x3), (5, .int x5)]) ⟨rfl, rfl, rfl, rfl, trivial⟩ ?_
      exact H
theorem b_M_ask_57 {h : xH} {d : Nat}  {x1 : Int32} {x3 : Int32} {x5 : Int32} {s0 : Int32} {S : xSt} {K : Int32 → xSt → Prop}  (H : B_M_ask_27 h d x1 x3 s0 (x5 + 1) S K) : B_M_ask_57 h d x1 x3 x5 s0 S K := by
  unfold B_M_ask_57
  refine x_istore (x_at tdX12_ask 32 rfl) (by decide) ?_
  refine x_iinc (x_at tdX12_ask 33 rfl) rfl (k_inc_1 _) (by decide) ?_
  refine x_goto 27 (x_at tdX12_ask 34 rfl) rfl ?_
  refine x_weak (lv' := [(0, .ref (x_ad (gM h) 0)), (1, .int x1), (3, .int x3), (4, .int s0), (5, .int (x5 + 1))]) ⟨rfl, rfl, rfl, rfl, rfl, trivial⟩ ?_
  exact H
theorem e_M_isBox {h : xH} {d : Nat} {x0 : Int32} {S : xSt} {K : Int32 → xSt → Prop}  (H : ((x0 < 0 → K 0 S) ∧ (¬ x0 < 0 → ((3 ≤ x0 → K 0 S) ∧ (¬ 3 ≤ x0 → K 1 S))))) : M_M_isBox h d x0 S K := by
  refine x_enter pn_X12 (Nat.le_of_ble_eq_true rfl) ?_
  show X (gM h) _ _ 0 [(0, .int x0)] [] S _
  refine x_iload_n (x_at tdX12_isBox 0 rfl) rfl rfl ?_
  refine x_if_lt 13 (x_at tdX12_isBox 1 rfl) rfl (fun c => ?_) (fun c => ?_)
  · have H := H.1 c
    refine x_iconst (x_at tdX12_isBox 7 rfl) k_c_0 ?_
    exact x_ireturn (ty := .boolean) rfl zb0.1 (x_at tdX12_isBox 8 rfl) ⟨_, rfl, H⟩
  · have H := H.2 c
    refine x_iload_n (x_at tdX12_isBox 2 rfl) rfl rfl ?_
    refine x_iconst (x_at tdX12_isBox 3 rfl) k_c_3 ?_
    refine x_ic_ge 13 (x_at tdX12_isBox 4 rfl) rfl (fun c => ?_) (fun c => ?_)
    · have H := H.1 c
      refine x_iconst (x_at tdX12_isBox 7 rfl) k_c_0 ?_
      exact x_ireturn (ty := .boolean) rfl zb0.1 (x_at tdX12_isBox 8 rfl) ⟨_, rfl, H⟩
    · have H := H.2 c
      refine x_iconst (x_at tdX12_isBox 5 rfl) k_c_1 ?_
      refine x_goto 14 (x_at tdX12_isBox 6 rfl) rfl ?_
      exact x_ireturn (ty := .boolean) rfl zb1.1 (x_at tdX12_isBox 8 rfl) ⟨_, rfl, H⟩
theorem e_M_image {h : xH} {d : Nat} {x1 : Int32} {S : xSt} {K : Int32 → xSt → Prop}  (H : M_M_isBox h d x1 S (fun (r1 : Int32) (S1 : xSt) => ((¬ r1 = 0 → (vp_in x1 3 ∧ B_M_image_18 h d x1 0 (x_putI S1 50 (x1 : Int32).toNatClampNeg (vp_nar .boolean 1)) K)) ∧ (r1 = 0 → K (-1) S1)))) : M_M_image h d x1 S K := by
  refine x_enter pn_X12 (Nat.le_of_ble_eq_true rfl) ?_
  show X (gM h) _ _ 0 [(0, .ref (x_ad (gM h) 0)), (1, .int x1)] [] S _
  refine x_iload_n (x_at tdX12_image 0 rfl) rfl rfl ?_
  refine x_cSi (as := [.int x1]) (rest := []) mi_X12_isBox (x_at tdX12_image 1 rfl) wm_X12_598 rfl (Nat.le_of_ble_eq_true rfl) rfl H (fun r1 S1 H => ?_)
  refine x_if_ne 9 (x_at tdX12_image 2 rfl) rfl (fun c => ?_) (fun c => ?_)
  · have H := H.1 c
    refine x_aload_n (x_at tdX12_image 5 rfl) rfl rfl ?_
    refine gfM_0_95 (x_at tdX12_image 6 rfl) wf_X12_166 ?_
    refine x_iload_n (x_at tdX12_image 7 rfl) rfl rfl ?_
    refine x_iconst (x_at tdX12_image 8 rfl) k_c_1 ?_
    refine x_zast (lM_50 h) (x_at tdX12_image 9 rfl) H.1 ?_
    have H := H.2
    refine x_iconst (x_at tdX12_image 10 rfl) k_c_0 ?_
    refine x_istore_n (x_at tdX12_image 11 rfl) rfl (by decide) ?_
    refine x_weak (lv' := [(0, .ref (x_ad (gM h) 0)), (1, .int x1), (2, .int 0)]) ⟨rfl, rfl, rfl, trivial⟩ ?_
    exact H
  · have H := H.2 c
    refine x_iconst (x_at tdX12_image 3 rfl) k_c_m1 ?_
    exact x_ireturn (ty := .int) rfl rfl (x_at tdX12_image 4 rfl) ⟨_, rfl, H⟩
theorem b_M_image_18 {h : xH} {d : Nat}  {x1 : Int32} {x2 : Int32} {S : xSt} {K : Int32 → xSt → Prop}  (H : ((23 ≤ x2 → K (S.1 34 20) S) ∧ (¬ 23 ≤ x2 → (vp_in x2 24 ∧ (vp_in (((24 : Int32) * x1) + x2) 72 ∧ B_M_image_18 h d x1 (x2 + 1) (x_putI S 51 ((((24 : Int32) * x1) + x2) : Int32).toNatClampNeg (S.1 34 (x2 : Int32).toNatClampNeg)) K))))) : B_M_image_18 h d x1 x2 S K := by
  unfold B_M_image_18
  refine x_iload_n (x_at tdX12_image 12 rfl) rfl rfl ?_
  refine x_bipush (x_at tdX12_image 13 rfl) k_b_23 ?_
  refine x_ic_ge 47 (x_at tdX12_image 14 rfl) rfl (fun c => ?_) (fun c => ?_)
  · have H := H.1 c
    refine x_aload_n (x_at tdX12_image 29 rfl) rfl rfl ?_
    refine gfM_0_67 (x_at tdX12_image 30 rfl) wf_X12_118 ?_
    refine x_bipush (x_at tdX12_image 31 rfl) k_b_20 ?_
    refine x_iald (lM_34 h) (x_at tdX12_image 32 rfl) vi_20_24 ?_
    refine x_top (v := (S.1 34 20)) rfl ?_
    exact x_ireturn (ty := .int) rfl rfl (x_at tdX12_image 33 rfl) ⟨_, rfl, H⟩
  · have H := H.2 c
    refine x_aload_n (x_at tdX12_image 15 rfl) rfl rfl ?_
    refine gfM_0_96 (x_at tdX12_image 16 rfl) wf_X12_169 ?_
    refine x_bipush (x_at tdX12_image 17 rfl) k_b_24 ?_
    refine x_iload_n (x_at tdX12_image 18 rfl) rfl rfl ?_
    refine x_imul (x_at tdX12_image 19 rfl) ?_
    refine x_iload_n (x_at tdX12_image 20 rfl) rfl rfl ?_
    refine x_iadd (x_at tdX12_image 21 rfl) ?_
    refine x_aload_n (x_at tdX12_image 22 rfl) rfl rfl ?_
    refine gfM_0_67 (x_at tdX12_image 23 rfl) wf_X12_118 ?_
    refine x_iload_n (x_at tdX12_image 24 rfl) rfl rfl ?_
    refine x_iald (lM_34 h) (x_at tdX12_image 25 rfl) H.1 ?_
    have H := H.2
    refine x_iast (lM_51 h) (x_at tdX12_image 26 rfl) H.1 ?_
    have H := H.2
    refine x_iinc (x_at tdX12_image 27 rfl) rfl (k_inc_1 _) (by decide) ?_
    refine x_goto 18 (x_at tdX12_image 28 rfl) rfl ?_
    refine x_weak (lv' := [(0, .ref (x_ad (gM h) 0)), (1, .int x1), (2, .int (x2 + 1))]) ⟨rfl, rfl, rfl, trivial⟩ ?_
    exact H
theorem e_M_back {h : xH} {d : Nat} {x1 : Int32} {S : xSt} {K : Int32 → xSt → Prop}  (H : M_M_isBox h d x1 S (fun (r1 : Int32) (S1 : xSt) => ((r1 = 0 → K (-1) S1) ∧ (¬ r1 = 0 → (vp_in x1 3 ∧ ((¬ (S1.1 50 (x1 : Int32).toNatClampNeg) = 0 → B_M_back_20 h d x1 0 S1 K) ∧ ((S1.1 50 (x1 : Int32).toNatClampNeg) = 0 → K (-1) S1))))))) : M_M_back h d x1 S K := by
  refine x_enter pn_X12 (Nat.le_of_ble_eq_true rfl) ?_
  show X (gM h) _ _ 0 [(0, .ref (x_ad (gM h) 0)), (1, .int x1)] [] S _
  refine x_iload_n (x_at tdX12_back 0 rfl) rfl rfl ?_
  refine x_cSi (as := [.int x1]) (rest := []) mi_X12_isBox (x_at tdX12_back 1 rfl) wm_X12_598 rfl (Nat.le_of_ble_eq_true rfl) rfl H (fun r1 S1 H => ?_)
  refine x_if_eq 16 (x_at tdX12_back 2 rfl) rfl (fun c => ?_) (fun c => ?_)
  · have H := H.1 c
    refine x_iconst (x_at tdX12_back 8 rfl) k_c_m1 ?_
    exact x_ireturn (ty := .int) rfl rfl (x_at tdX12_back 9 rfl) ⟨_, rfl, H⟩
  · have H := H.2 c
    refine x_aload_n (x_at tdX12_back 3 rfl) rfl rfl ?_
    refine gfM_0_95 (x_at tdX12_back 4 rfl) wf_X12_166 ?_
    refine x_iload_n (x_at tdX12_back 5 rfl) rfl rfl ?_
    refine x_zald (lM_50 h) (x_at tdX12_back 6 rfl) H.1 ?_
    have H := H.2
    refine x_if_ne 18 (x_at tdX12_back 7 rfl) rfl (fun c => ?_) (fun c => ?_)
    · have H := H.1 c
      refine x_iconst (x_at tdX12_back 10 rfl) k_c_0 ?_
      refine x_istore_n (x_at tdX12_back 11 rfl) rfl (by decide) ?_
      refine x_weak (lv' := [(0, .ref (x_ad (gM h) 0)), (1, .int x1), (2, .int 0)]) ⟨rfl, rfl, rfl, trivial⟩ ?_
      exact H
    · have H := H.2 c
      refine x_iconst (x_at tdX12_back 8 rfl) k_c_m1 ?_
      exact x_ireturn (ty := .int) rfl rfl (x_at tdX12_back 9 rfl) ⟨_, rfl, H⟩
theorem b_M_back_20 {h : xH} {d : Nat}  {x1 : Int32} {x2 : Int32} {S : xSt} {K : Int32 → xSt → Prop}  (H : ((23 ≤ x2 → K (S.1 34 20) (x_putI (x_putI S 0 69 0) 0 70 0)) ∧ (¬ 23 ≤ x2 → (vp_in (((24 : Int32) * x1) + x2) 72 ∧ (vp_in x2 24 ∧ B_M_back_20 h d x1 (x2 + 1) (x_putI S 34 (x2 : Int32).toNatClampNeg (S.1 51 ((((24 : Int32) * x1) + x2) : Int32).toNatClampNeg)) K))))) : B_M_back_20 h d x1 x2 S K := by
  unfold B_M_back_20
  refine x_iload_n (x_at tdX12_back 12 rfl) rfl rfl ?_
  refine x_bipush (x_at tdX12_back 13 rfl) k_b_23 ?_
  refine x_ic_ge 49 (x_at tdX12_back 14 rfl) rfl (fun c => ?_) (fun c => ?_)
  · have H := H.1 c
    refine x_aload_n (x_at tdX12_back 29 rfl) rfl rfl ?_
    refine x_iconst (x_at tdX12_back 30 rfl) k_c_0 ?_
    refine pfM_0_69 (x_at tdX12_back 31 rfl) wf_X12_441 ?_
    refine x_aload_n (x_at tdX12_back 32 rfl) rfl rfl ?_
    refine x_iconst (x_at tdX12_back 33 rfl) k_c_0 ?_
    refine pfM_0_70 (x_at tdX12_back 34 rfl) wf_X12_444 ?_
    refine x_aload_n (x_at tdX12_back 35 rfl) rfl rfl ?_
    refine gfM_0_67 (x_at tdX12_back 36 rfl) wf_X12_118 ?_
    refine x_bipush (x_at tdX12_back 37 rfl) k_b_20 ?_
    refine x_iald (lM_34 h) (x_at tdX12_back 38 rfl) vi_20_24 ?_
    refine x_top (v := (S.1 34 20)) rfl ?_
    exact x_ireturn (ty := .int) rfl rfl (x_at tdX12_back 39 rfl) ⟨_, rfl, H⟩
  · have H := H.2 c
    refine x_aload_n (x_at tdX12_back 15 rfl) rfl rfl ?_
    refine gfM_0_67 (x_at tdX12_back 16 rfl) wf_X12_118 ?_
    refine x_iload_n (x_at tdX12_back 17 rfl) rfl rfl ?_
    refine x_aload_n (x_at tdX12_back 18 rfl) rfl rfl ?_
    refine gfM_0_96 (x_at tdX12_back 19 rfl) wf_X12_169 ?_
    refine x_bipush (x_at tdX12_back 20 rfl) k_b_24 ?_
    refine x_iload_n (x_at tdX12_back 21 rfl) rfl rfl ?_
    refine x_imul (x_at tdX12_back 22 rfl) ?_
    refine x_iload_n (x_at tdX12_back 23 rfl) rfl rfl ?_
    refine x_iadd (x_at tdX12_back 24 rfl) ?_
    refine x_iald (lM_51 h) (x_at tdX12_back 25 rfl) H.1 ?_
    have H := H.2
    refine x_iast (lM_34 h) (x_at tdX12_back 26 rfl) H.1 ?_
    have H := H.2
    refine x_iinc (x_at tdX12_back 27 rfl) rfl (k_inc_1 _) (by decide) ?_
    refine x_goto 20 (x_at tdX12_back 28 rfl) rfl ?_
    refine x_weak (lv' := [(0, .ref (x_ad (gM h) 0)), (1, .int x1), (2, .int (x2 + 1))]) ⟨rfl, rfl, rfl, trivial⟩ ?_
    exact H
theorem e_M_about {h : xH} {d : Nat} {x1 : Int32} {S : xSt} {K : Int32 → xSt → Prop}  (H : (((x1.toInt < 0 ∨ 14 < x1.toInt) → K (-1) S) ∧ (x1 = 0 → K (S.1 0 58) S) ∧ (x1 = 1 → K (S.1 0 56) S) ∧ (x1 = 2 → K (S.1 0 57) S) ∧ (x1 = 3 → K (S.1 0 59) S) ∧ (x1 = 4 → K (S.1 34 20) S) ∧ (x1 = 5 → K (S.1 34 21) S) ∧ (x1 = 6 → K (S.1 34 22) S) ∧ (x1 = 7 → K (S.1 0 60) S) ∧ (x1 = 8 → K (S.1 0 69) S) ∧ (x1 = 9 → K (S.1 0 70) S) ∧ (x1 = 10 → K (S.1 0 93) S) ∧ (x1 = 11 → K (S.1 0 94) S) ∧ (x1 = 12 → K (S.1 0 1) S) ∧ (x1 = 13 → K (S.1 0 21) S) ∧ (x1 = 14 → K (S.1 0 85) S))) : M_M_about h d x1 S K := by
  refine x_enter pn_X12 (Nat.le_of_ble_eq_true rfl) ?_
  show X (gM h) _ _ 0 [(0, .ref (x_ad (gM h) 0)), (1, .int x1)] [] S _
  refine x_iload_n (x_at tdX12_about 0 rfl) rfl rfl ?_
  by_cases hq : (x1 : Int32).toInt < 0 ∨ 14 < (x1 : Int32).toInt
  · refine x_tableOut 160 (x_at tdX12_about 1 rfl) hq rfl ?_
    have H := H.1 hq
    refine x_iconst (x_at tdX12_about 53 rfl) k_c_m1 ?_
    exact x_ireturn (ty := .int) rfl rfl (x_at tdX12_about 54 rfl) ⟨_, rfl, H⟩
  · rcases sw_in_0_14 hq with hx | hx | hx | hx | hx | hx | hx | hx | hx | hx | hx | hx | hx | hx | hx
    · refine x_tsw 76 (x_at tdX12_about 1 rfl) hx (by decide) (by decide) rfl rfl ?_
      have H := H.2.1 hx
      refine x_aload_n (x_at tdX12_about 2 rfl) rfl rfl ?_
      refine gfM_0_58 (x_at tdX12_about 3 rfl) wf_X12_429 ?_
      exact x_ireturn (ty := .int) rfl rfl (x_at tdX12_about 4 rfl) ⟨_, rfl, H⟩
    · refine x_tsw 81 (x_at tdX12_about 1 rfl) hx (by decide) (by decide) rfl rfl ?_
      have H := H.2.2.1 hx
      refine x_aload_n (x_at tdX12_about 5 rfl) rfl rfl ?_
      refine gfM_0_56 (x_at tdX12_about 6 rfl) wf_X12_423 ?_
      exact x_ireturn (ty := .int) rfl rfl (x_at tdX12_about 7 rfl) ⟨_, rfl, H⟩
    · refine x_tsw 86 (x_at tdX12_about 1 rfl) hx (by decide) (by decide) rfl rfl ?_
      have H := H.2.2.2.1 hx
      refine x_aload_n (x_at tdX12_about 8 rfl) rfl rfl ?_
      refine gfM_0_57 (x_at tdX12_about 9 rfl) wf_X12_426 ?_
      exact x_ireturn (ty := .int) rfl rfl (x_at tdX12_about 10 rfl) ⟨_, rfl, H⟩
    · refine x_tsw 91 (x_at tdX12_about 1 rfl) hx (by decide) (by decide) rfl rfl ?_
      have H := H.2.2.2.2.1 hx
      refine x_aload_n (x_at tdX12_about 11 rfl) rfl rfl ?_
      refine gfM_0_59 (x_at tdX12_about 12 rfl) wf_X12_432 ?_
      exact x_ireturn (ty := .int) rfl rfl (x_at tdX12_about 13 rfl) ⟨_, rfl, H⟩
    · refine x_tsw 96 (x_at tdX12_about 1 rfl) hx (by decide) (by decide) rfl rfl ?_
      have H := H.2.2.2.2.2.1 hx
      refine x_aload_n (x_at tdX12_about 14 rfl) rfl rfl ?_
      refine gfM_0_67 (x_at tdX12_about 15 rfl) wf_X12_118 ?_
      refine x_bipush (x_at tdX12_about 16 rfl) k_b_20 ?_
      refine x_iald (lM_34 h) (x_at tdX12_about 17 rfl) vi_20_24 ?_
      refine x_top (v := (S.1 34 20)) rfl ?_
      exact x_ireturn (ty := .int) rfl rfl (x_at tdX12_about 18 rfl) ⟨_, rfl, H⟩
    · refine x_tsw 104 (x_at tdX12_about 1 rfl) hx (by decide) (by decide) rfl rfl ?_
      have H := H.2.2.2.2.2.2.1 hx
      refine x_aload_n (x_at tdX12_about 19 rfl) rfl rfl ?_
      refine gfM_0_67 (x_at tdX12_about 20 rfl) wf_X12_118 ?_
      refine x_bipush (x_at tdX12_about 21 rfl) k_b_21 ?_
      refine x_iald (lM_34 h) (x_at tdX12_about 22 rfl) vi_21_24 ?_
      refine x_top (v := (S.1 34 21)) rfl ?_
      exact x_ireturn (ty := .int) rfl rfl (x_at tdX12_about 23 rfl) ⟨_, rfl, H⟩
    · refine x_tsw 112 (x_at tdX12_about 1 rfl) hx (by decide) (by decide) rfl rfl ?_
      have H := H.2.2.2.2.2.2.2.1 hx
      refine x_aload_n (x_at tdX12_about 24 rfl) rfl rfl ?_
      refine gfM_0_67 (x_at tdX12_about 25 rfl) wf_X12_118 ?_
      refine x_bipush (x_at tdX12_about 26 rfl) k_b_22 ?_
      refine x_iald (lM_34 h) (x_at tdX12_about 27 rfl) vi_22_24 ?_
      refine x_top (v := (S.1 34 22)) rfl ?_
      exact x_ireturn (ty := .int) rfl rfl (x_at tdX12_about 28 rfl) ⟨_, rfl, H⟩
    · refine x_tsw 120 (x_at tdX12_about 1 rfl) hx (by decide) (by decide) rfl rfl ?_
      have H := H.2.2.2.2.2.2.2.2.1 hx
      refine x_aload_n (x_at tdX12_about 29 rfl) rfl rfl ?_
      refine gfM_0_60 (x_at tdX12_about 30 rfl) wf_X12_115 ?_
      exact x_ireturn (ty := .int) rfl rfl (x_at tdX12_about 31 rfl) ⟨_, rfl, H⟩
    · refine x_tsw 125 (x_at tdX12_about 1 rfl) hx (by decide) (by decide) rfl rfl ?_
      have H := H.2.2.2.2.2.2.2.2.2.1 hx
      refine x_aload_n (x_at tdX12_about 32 rfl) rfl rfl ?_
      refine gfM_0_69 (x_at tdX12_about 33 rfl) wf_X12_441 ?_
      exact x_ireturn (ty := .int) rfl rfl (x_at tdX12_about 34 rfl) ⟨_, rfl, H⟩
    · refine x_tsw 130 (x_at tdX12_about 1 rfl) hx (by decide) (by decide) rfl rfl ?_
      have H := H.2.2.2.2.2.2.2.2.2.2.1 hx
      refine x_aload_n (x_at tdX12_about 35 rfl) rfl rfl ?_
      refine gfM_0_70 (x_at tdX12_about 36 rfl) wf_X12_444 ?_
      exact x_ireturn (ty := .int) rfl rfl (x_at tdX12_about 37 rfl) ⟨_, rfl, H⟩
    · refine x_tsw 135 (x_at tdX12_about 1 rfl) hx (by decide) (by decide) rfl rfl ?_
      have H := H.2.2.2.2.2.2.2.2.2.2.2.1 hx
      refine x_aload_n (x_at tdX12_about 38 rfl) rfl rfl ?_
      refine gfM_0_93 (x_at tdX12_about 39 rfl) wf_X12_447 ?_
      exact x_ireturn (ty := .int) rfl rfl (x_at tdX12_about 40 rfl) ⟨_, rfl, H⟩
    · refine x_tsw 140 (x_at tdX12_about 1 rfl) hx (by decide) (by decide) rfl rfl ?_
      have H := H.2.2.2.2.2.2.2.2.2.2.2.2.1 hx
      refine x_aload_n (x_at tdX12_about 41 rfl) rfl rfl ?_
      refine gfM_0_94 (x_at tdX12_about 42 rfl) wf_X12_582 ?_
      exact x_ireturn (ty := .int) rfl rfl (x_at tdX12_about 43 rfl) ⟨_, rfl, H⟩
    · refine x_tsw 145 (x_at tdX12_about 1 rfl) hx (by decide) (by decide) rfl rfl ?_
      have H := H.2.2.2.2.2.2.2.2.2.2.2.2.2.1 hx
      refine x_aload_n (x_at tdX12_about 44 rfl) rfl rfl ?_
      refine gfM_0_1 (x_at tdX12_about 45 rfl) wf_X12_172 ?_
      exact x_ireturn (ty := .int) rfl rfl (x_at tdX12_about 46 rfl) ⟨_, rfl, H⟩
    · refine x_tsw 150 (x_at tdX12_about 1 rfl) hx (by decide) (by decide) rfl rfl ?_
      have H := H.2.2.2.2.2.2.2.2.2.2.2.2.2.2.1 hx
      refine x_aload_n (x_at tdX12_about 47 rfl) rfl rfl ?_
      refine gfM_0_21 (x_at tdX12_about 48 rfl) wf_X12_438 ?_
      exact x_ireturn (ty := .int) rfl rfl (x_at tdX12_about 49 rfl) ⟨_, rfl, H⟩
    · refine x_tsw 155 (x_at tdX12_about 1 rfl) hx (by decide) (by decide) rfl rfl ?_
      have H := H.2.2.2.2.2.2.2.2.2.2.2.2.2.2.2 hx
      refine x_aload_n (x_at tdX12_about 50 rfl) rfl rfl ?_
      refine gfM_0_85 (x_at tdX12_about 51 rfl) wf_X12_450 ?_
      exact x_ireturn (ty := .int) rfl rfl (x_at tdX12_about 52 rfl) ⟨_, rfl, H⟩
end
