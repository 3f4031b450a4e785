section
theorem e_M_fault {h : xH} {d : Nat} {x1 : Int32} {S : xSt} {K : Int32 → xSt → Prop}  (H : ((¬ x1 = 0 → ((¬ x1 = 1 → K (-1) S) ∧ (x1 = 1 → K (S.1 0 3) S))) ∧ (x1 = 0 → K (S.1 0 2) S))) : M_M_fault h d x1 S K := by
  refine x_enter pn_X12 (Nat.le_of_ble_eq_true rfl) ?_
  show X (gM h) _ _ 0 [(0, .ref (x_ad (gM h) 0)), (1, .int x1)] [] S _
  refine x_iload_n (x_at tdX12_fault 0 rfl) rfl rfl ?_
  refine x_if_ne 11 (x_at tdX12_fault 1 rfl) rfl (fun c => ?_) (fun c => ?_)
  · have H := H.1 c
    refine x_iload_n (x_at tdX12_fault 5 rfl) rfl rfl ?_
    refine x_iconst (x_at tdX12_fault 6 rfl) k_c_1 ?_
    refine x_ic_ne 23 (x_at tdX12_fault 7 rfl) rfl (fun c => ?_) (fun c => ?_)
    · have H := H.1 c
      refine x_iconst (x_at tdX12_fault 11 rfl) k_c_m1 ?_
      exact x_ireturn (ty := .int) rfl rfl (x_at tdX12_fault 12 rfl) ⟨_, rfl, H⟩
    · have H := H.2 c
      refine x_aload_n (x_at tdX12_fault 8 rfl) rfl rfl ?_
      refine gfM_0_3 (x_at tdX12_fault 9 rfl) wf_X12_13 ?_
      refine x_goto 24 (x_at tdX12_fault 10 rfl) rfl ?_
      exact x_ireturn (ty := .int) rfl rfl (x_at tdX12_fault 12 rfl) ⟨_, rfl, H⟩
  · have H := H.2 c
    refine x_aload_n (x_at tdX12_fault 2 rfl) rfl rfl ?_
    refine gfM_0_2 (x_at tdX12_fault 3 rfl) wf_X12_212 ?_
    refine x_goto 24 (x_at tdX12_fault 4 rfl) rfl ?_
    exact x_ireturn (ty := .int) rfl rfl (x_at tdX12_fault 12 rfl) ⟨_, rfl, H⟩
theorem e_M_isIn {h : xH} {d : Nat} {x0 : Int32} {x1 : Int32} {x2 : Int32} {S : xSt} {K : Int32 → xSt → Prop}  (H : ((x0 < x1 → K 0 S) ∧ (¬ x0 < x1 → ((x2 < x0 → K 0 S) ∧ (¬ x2 < x0 → K 1 S))))) : M_M_isIn h d x0 x1 x2 S K := by
  refine x_enter pn_X12 (Nat.le_of_ble_eq_true rfl) ?_
  show X (gM h) _ _ 0 [(0, .int x0), (1, .int x1), (2, .int x2)] [] S _
  refine x_iload_n (x_at tdX12_isIn 0 rfl) rfl rfl ?_
  refine x_iload_n (x_at tdX12_isIn 1 rfl) rfl rfl ?_
  refine x_ic_lt 14 (x_at tdX12_isIn 2 rfl) rfl (fun c => ?_) (fun c => ?_)
  · have H := H.1 c
    refine x_iconst (x_at tdX12_isIn 8 rfl) k_c_0 ?_
    exact x_ireturn (ty := .boolean) rfl zb0.1 (x_at tdX12_isIn 9 rfl) ⟨_, rfl, H⟩
  · have H := H.2 c
    refine x_iload_n (x_at tdX12_isIn 3 rfl) rfl rfl ?_
    refine x_iload_n (x_at tdX12_isIn 4 rfl) rfl rfl ?_
    refine x_ic_gt 14 (x_at tdX12_isIn 5 rfl) rfl (fun c => ?_) (fun c => ?_)
    · have H := H.1 c
      refine x_iconst (x_at tdX12_isIn 8 rfl) k_c_0 ?_
      exact x_ireturn (ty := .boolean) rfl zb0.1 (x_at tdX12_isIn 9 rfl) ⟨_, rfl, H⟩
    · have H := H.2 c
      refine x_iconst (x_at tdX12_isIn 6 rfl) k_c_1 ?_
      refine x_goto 15 (x_at tdX12_isIn 7 rfl) rfl ?_
      exact x_ireturn (ty := .boolean) rfl zb1.1 (x_at tdX12_isIn 9 rfl) ⟨_, rfl, H⟩
theorem e_M_isButton {h : xH} {d : Nat} {x1 : Int32} {S : xSt} {K : Int32 → xSt → Prop}  (H : M_M_isIn h d x1 0 ((S.1 0 58) - (1 : Int32)) S (fun (r1 : Int32) (S1 : xSt) => (zb r1 ∧ K r1 S1))) : M_M_isButton h d x1 S K := by
  refine x_enter pn_X12 (Nat.le_of_ble_eq_true rfl) ?_
  show X (gM h) _ _ 0 [(0, .ref (x_ad (gM h) 0)), (1, .int x1)] [] S _
  refine x_iload_n (x_at tdX12_isButton 0 rfl) rfl rfl ?_
  refine x_iconst (x_at tdX12_isButton 1 rfl) k_c_0 ?_
  refine x_aload_n (x_at tdX12_isButton 2 rfl) rfl rfl ?_
  refine gfM_0_58 (x_at tdX12_isButton 3 rfl) wf_X12_429 ?_
  refine x_iconst (x_at tdX12_isButton 4 rfl) k_c_1 ?_
  refine x_isub (x_at tdX12_isButton 5 rfl) ?_
  refine x_cSi (as := [.int x1, .int 0, .int ((S.1 0 58) - (1 : Int32))]) (rest := []) mi_X12_isIn (x_at tdX12_isButton 6 rfl) wm_X12_453 rfl (Nat.le_of_ble_eq_true rfl) rfl H (fun r1 S1 H => ?_)
  exact x_ireturn (ty := .boolean) rfl H.1.1 (x_at tdX12_isButton 7 rfl) ⟨_, rfl, H.2⟩
theorem e_M_button {h : xH} {d : Nat} {x1 : Int32} {x2 : Int32} {S : xSt} {K : Int32 → xSt → Prop}  (H : M_M_isButton h d x1 S (fun (r1 : Int32) (S1 : xSt) => ((¬ r1 = 0 → (((x2.toInt < 0 ∨ 7 < x2.toInt) → K (-2) S1) ∧ (x2 = 0 → (vp_in x1 24 ∧ K (S1.1 34 (x1 : Int32).toNatClampNeg) S1)) ∧ (x2 = 1 → (vp_in ((10 : Int32) + x1) 24 ∧ K (S1.1 34 (((10 : Int32) + x1) : Int32).toNatClampNeg) S1)) ∧ (x2 = 2 → (vp_in x1 10 ∧ K (S1.1 26 (x1 : Int32).toNatClampNeg) S1)) ∧ (x2 = 3 → (vp_in x1 10 ∧ K (S1.1 27 (x1 : Int32).toNatClampNeg) S1)) ∧ (x2 = 4 → (vp_in x1 10 ∧ K (S1.1 28 (x1 : Int32).toNatClampNeg) S1)) ∧ (x2 = 5 → (vp_in x1 10 ∧ M_M_truth h (d + 1) (S1.1 33 (x1 : Int32).toNatClampNeg) S1 (fun (r2 : Int32) (S2 : xSt) => K r2 S2))) ∧ (x2 = 6 → (vp_in x1 10 ∧ K (S1.1 29 (x1 : Int32).toNatClampNeg) S1)) ∧ (x2 = 7 → (vp_in x1 10 ∧ K (S1.1 31 (x1 : Int32).toNatClampNeg) S1)))) ∧ (r1 = 0 → K (-2) S1)))) : M_M_button h d x1 x2 S K := by
  refine x_enter pn_X12 (Nat.le_of_ble_eq_true rfl) ?_
  show X (gM h) _ _ 0 [(0, .ref (x_ad (gM h) 0)), (1, .int x1), (2, .int x2)] [] S _
  refine x_aload_n (x_at tdX12_button 0 rfl) rfl rfl ?_
  refine x_iload_n (x_at tdX12_button 1 rfl) rfl rfl ?_
  refine x_cVi (as := [.int x1]) (rest := []) mi_X12_isButton vc_12 (lM_0 h) (x_at tdX12_button 2 rfl) wm_X12_457 rfl (Nat.le_of_ble_eq_true rfl) rfl H (fun r1 S1 H => ?_)
  refine x_if_ne 11 (x_at tdX12_button 3 rfl) rfl (fun c => ?_) (fun c => ?_)
  · have H := H.1 c
    refine x_iload_n (x_at tdX12_button 6 rfl) rfl rfl ?_
    by_cases hq : (x2 : Int32).toInt < 0 ∨ 7 < (x2 : Int32).toInt
    · refine x_tableOut 122 (x_at tdX12_button 7 rfl) hq rfl ?_
      have H := H.1 hq
      refine x_bipush (x_at tdX12_button 51 rfl) k_b_m2 ?_
      exact x_ireturn (ty := .int) rfl rfl (x_at tdX12_button 52 rfl) ⟨_, rfl, H⟩
    · rcases sw_in_0_7 hq with hx | hx | hx | hx | hx | hx | hx | hx
      · refine x_tsw 60 (x_at tdX12_button 7 rfl) hx (by decide) (by decide) rfl rfl ?_
        have H := H.2.1 hx
        refine x_aload_n (x_at tdX12_button 8 rfl) rfl rfl ?_
        refine gfM_0_67 (x_at tdX12_button 9 rfl) wf_X12_118 ?_
        refine x_iload_n (x_at tdX12_button 10 rfl) rfl rfl ?_
        refine x_iald (lM_34 h) (x_at tdX12_button 11 rfl) H.1 ?_
        have H := H.2
        exact x_ireturn (ty := .int) rfl rfl (x_at tdX12_button 12 rfl) ⟨_, rfl, H⟩
      · refine x_tsw 67 (x_at tdX12_button 7 rfl) hx (by decide) (by decide) rfl rfl ?_
        have H := H.2.2.1 hx
        refine x_aload_n (x_at tdX12_button 13 rfl) rfl rfl ?_
        refine gfM_0_67 (x_at tdX12_button 14 rfl) wf_X12_118 ?_
        refine x_bipush (x_at tdX12_button 15 rfl) k_b_10 ?_
        refine x_iload_n (x_at tdX12_button 16 rfl) rfl rfl ?_
        refine x_iadd (x_at tdX12_button 17 rfl) ?_
        refine x_iald (lM_34 h) (x_at tdX12_button 18 rfl) H.1 ?_
        have H := H.2
        exact x_ireturn (ty := .int) rfl rfl (x_at tdX12_button 19 rfl) ⟨_, rfl, H⟩
      · refine x_tsw 77 (x_at tdX12_button 7 rfl) hx (by decide) (by decide) rfl rfl ?_
        have H := H.2.2.2.1 hx
        refine x_aload_n (x_at tdX12_button 20 rfl) rfl rfl ?_
        refine gfM_0_41 (x_at tdX12_button 21 rfl) wf_X12_90 ?_
        refine x_iload_n (x_at tdX12_button 22 rfl) rfl rfl ?_
        refine x_iald (lM_26 h) (x_at tdX12_button 23 rfl) H.1 ?_
        have H := H.2
        exact x_ireturn (ty := .int) rfl rfl (x_at tdX12_button 24 rfl) ⟨_, rfl, H⟩
      · refine x_tsw 84 (x_at tdX12_button 7 rfl) hx (by decide) (by decide) rfl rfl ?_
        have H := H.2.2.2.2.1 hx
        refine x_aload_n (x_at tdX12_button 25 rfl) rfl rfl ?_
        refine gfM_0_42 (x_at tdX12_button 26 rfl) wf_X12_93 ?_
        refine x_iload_n (x_at tdX12_button 27 rfl) rfl rfl ?_
        refine x_iald (lM_27 h) (x_at tdX12_button 28 rfl) H.1 ?_
        have H := H.2
        exact x_ireturn (ty := .int) rfl rfl (x_at tdX12_button 29 rfl) ⟨_, rfl, H⟩
      · refine x_tsw 91 (x_at tdX12_button 7 rfl) hx (by decide) (by decide) rfl rfl ?_
        have H := H.2.2.2.2.2.1 hx
        refine x_aload_n (x_at tdX12_button 30 rfl) rfl rfl ?_
        refine gfM_0_43 (x_at tdX12_button 31 rfl) wf_X12_96 ?_
        refine x_iload_n (x_at tdX12_button 32 rfl) rfl rfl ?_
        refine x_iald (lM_28 h) (x_at tdX12_button 33 rfl) H.1 ?_
        have H := H.2
        exact x_ireturn (ty := .int) rfl rfl (x_at tdX12_button 34 rfl) ⟨_, rfl, H⟩
      · refine x_tsw 98 (x_at tdX12_button 7 rfl) hx (by decide) (by decide) rfl rfl ?_
        have H := H.2.2.2.2.2.2.1 hx
        refine x_aload_n (x_at tdX12_button 35 rfl) rfl rfl ?_
        refine gfM_0_48 (x_at tdX12_button 36 rfl) wf_X12_112 ?_
        refine x_iload_n (x_at tdX12_button 37 rfl) rfl rfl ?_
        refine x_zald (lM_33 h) (x_at tdX12_button 38 rfl) H.1 ?_
        have H := H.2
        refine x_cSi (as := [.int (S1.1 33 (x1 : Int32).toNatClampNeg)]) (rest := []) mi_X12_truth (x_at tdX12_button 39 rfl) wm_X12_344 rfl (Nat.le_of_ble_eq_true rfl) rfl H (fun r2 S2 H => ?_)
        exact x_ireturn (ty := .int) rfl rfl (x_at tdX12_button 40 rfl) ⟨_, rfl, H⟩
      · refine x_tsw 108 (x_at tdX12_button 7 rfl) hx (by decide) (by decide) rfl rfl ?_
        have H := H.2.2.2.2.2.2.2.1 hx
        refine x_aload_n (x_at tdX12_button 41 rfl) rfl rfl ?_
        refine gfM_0_44 (x_at tdX12_button 42 rfl) wf_X12_99 ?_
        refine x_iload_n (x_at tdX12_button 43 rfl) rfl rfl ?_
        refine x_iald (lM_29 h) (x_at tdX12_button 44 rfl) H.1 ?_
        have H := H.2
        exact x_ireturn (ty := .int) rfl rfl (x_at tdX12_button 45 rfl) ⟨_, rfl, H⟩
      · refine x_tsw 115 (x_at tdX12_button 7 rfl) hx (by decide) (by decide) rfl rfl ?_
        have H := H.2.2.2.2.2.2.2.2 hx
        refine x_aload_n (x_at tdX12_button 46 rfl) rfl rfl ?_
        refine gfM_0_46 (x_at tdX12_button 47 rfl) wf_X12_105 ?_
        refine x_iload_n (x_at tdX12_button 48 rfl) rfl rfl ?_
        refine x_iald (lM_31 h) (x_at tdX12_button 49 rfl) H.1 ?_
        have H := H.2
        exact x_ireturn (ty := .int) rfl rfl (x_at tdX12_button 50 rfl) ⟨_, rfl, H⟩
  · have H := H.2 c
    refine x_bipush (x_at tdX12_button 4 rfl) k_b_m2 ?_
    exact x_ireturn (ty := .int) rfl rfl (x_at tdX12_button 5 rfl) ⟨_, rfl, H⟩
theorem e_M_isMan {h : xH} {d : Nat} {x1 : Int32} {S : xSt} {K : Int32 → xSt → Prop}  (H : M_M_isIn h d x1 0 ((S.1 0 56) - (1 : Int32)) S (fun (r1 : Int32) (S1 : xSt) => (zb r1 ∧ K r1 S1))) : M_M_isMan h d x1 S K := by
  refine x_enter pn_X12 (Nat.le_of_ble_eq_true rfl) ?_
  show X (gM h) _ _ 0 [(0, .ref (x_ad (gM h) 0)), (1, .int x1)] [] S _
  refine x_iload_n (x_at tdX12_isMan 0 rfl) rfl rfl ?_
  refine x_iconst (x_at tdX12_isMan 1 rfl) k_c_0 ?_
  refine x_aload_n (x_at tdX12_isMan 2 rfl) rfl rfl ?_
  refine gfM_0_56 (x_at tdX12_isMan 3 rfl) wf_X12_423 ?_
  refine x_iconst (x_at tdX12_isMan 4 rfl) k_c_1 ?_
  refine x_isub (x_at tdX12_isMan 5 rfl) ?_
  refine x_cSi (as := [.int x1, .int 0, .int ((S.1 0 56) - (1 : Int32))]) (rest := []) mi_X12_isIn (x_at tdX12_isMan 6 rfl) wm_X12_453 rfl (Nat.le_of_ble_eq_true rfl) rfl H (fun r1 S1 H => ?_)
  exact x_ireturn (ty := .boolean) rfl H.1.1 (x_at tdX12_isMan 7 rfl) ⟨_, rfl, H.2⟩
theorem e_M_coat {h : xH} {d : Nat} {x1 : Int32} {x2 : Int32} {S : xSt} {K : Int32 → xSt → Prop}  (H : M_M_isMan h d x1 S (fun (r1 : Int32) (S1 : xSt) => ((r1 = 0 → K (-1) S1) ∧ (¬ r1 = 0 → M_M_isIn h (d + 1) x2 0 3 S1 (fun (r2 : Int32) (S2 : xSt) => ((¬ r2 = 0 → ((2 ≤ x2 → ((¬ x2 = 2 → B_M_coat_38 h d x1 x2 4 S2 K) ∧ (x2 = 2 → B_M_coat_38 h d x1 x2 3 S2 K))) ∧ (¬ 2 ≤ x2 → B_M_coat_38 h d x1 x2 0 S2 K))) ∧ (r2 = 0 → K (-1) S2))))))) : M_M_coat h d x1 x2 S K := by
  refine x_enter pn_X12 (Nat.le_of_ble_eq_true rfl) ?_
  show X (gM h) _ _ 0 [(0, .ref (x_ad (gM h) 0)), (1, .int x1), (2, .int x2)] [] S _
  refine x_aload_n (x_at tdX12_coat 0 rfl) rfl rfl ?_
  refine x_iload_n (x_at tdX12_coat 1 rfl) rfl rfl ?_
  refine x_cVi (as := [.int x1]) (rest := []) mi_X12_isMan vc_12 (lM_0 h) (x_at tdX12_coat 2 rfl) wm_X12_460 rfl (Nat.le_of_ble_eq_true rfl) rfl H (fun r1 S1 H => ?_)
  refine x_if_eq 17 (x_at tdX12_coat 3 rfl) rfl (fun c => ?_) (fun c => ?_)
  · have H := H.1 c
    refine x_iconst (x_at tdX12_coat 9 rfl) k_c_m1 ?_
    exact x_ireturn (ty := .int) rfl rfl (x_at tdX12_coat 10 rfl) ⟨_, rfl, H⟩
  · have H := H.2 c
    refine x_iload_n (x_at tdX12_coat 4 rfl) rfl rfl ?_
    refine x_iconst (x_at tdX12_coat 5 rfl) k_c_0 ?_
    refine x_iconst (x_at tdX12_coat 6 rfl) k_c_3 ?_
    refine x_cSi (as := [.int x2, .int 0, .int 3]) (rest := []) mi_X12_isIn (x_at tdX12_coat 7 rfl) wm_X12_453 rfl (Nat.le_of_ble_eq_true rfl) rfl H (fun r2 S2 H => ?_)
    refine x_if_ne 19 (x_at tdX12_coat 8 rfl) rfl (fun c => ?_) (fun c => ?_)
    · have H := H.1 c
      refine x_iload_n (x_at tdX12_coat 11 rfl) rfl rfl ?_
      refine x_iconst (x_at tdX12_coat 12 rfl) k_c_2 ?_
      refine x_ic_ge 28 (x_at tdX12_coat 13 rfl) rfl (fun c => ?_) (fun c => ?_)
      · have H := H.1 c
        refine x_iload_n (x_at tdX12_coat 16 rfl) rfl rfl ?_
        refine x_iconst (x_at tdX12_coat 17 rfl) k_c_2 ?_
        refine x_ic_ne 37 (x_at tdX12_coat 18 rfl) rfl (fun c => ?_) (fun c => ?_)
        · have H := H.1 c
          refine x_iconst (x_at tdX12_coat 21 rfl) k_c_4 ?_
          refine x_weak (lv' := [(0, .ref (x_ad (gM h) 0)), (1, .int x1), (2, .int x2)]) ⟨rfl, rfl, rfl, trivial⟩ ?_
          exact H
        · have H := H.2 c
          refine x_iconst (x_at tdX12_coat 19 rfl) k_c_3 ?_
          refine x_goto 38 (x_at tdX12_coat 20 rfl) rfl ?_
          refine x_weak (lv' := [(0, .ref (x_ad (gM h) 0)), (1, .int x1), (2, .int x2)]) ⟨rfl, rfl, rfl, trivial⟩ ?_
          exact H
      · have H := H.2 c
        refine x_iconst (x_at tdX12_coat 14 rfl) k_c_0 ?_
        refine x_goto 38 (x_at tdX12_coat 15 rfl) rfl ?_
        refine x_weak (lv' := [(0, .ref (x_ad (gM h) 0)), (1, .int x1), (2, .int x2)]) ⟨rfl, rfl, rfl, trivial⟩ ?_
        exact H
    · have H := H.2 c
      refine x_iconst (x_at tdX12_coat 9 rfl) k_c_m1 ?_
      exact x_ireturn (ty := .int) rfl rfl (x_at tdX12_coat 10 rfl) ⟨_, rfl, H⟩
theorem b_M_coat_38 {h : xH} {d : Nat}  {x1 : Int32} {x2 : Int32} {s0 : Int32} {S : xSt} {K : Int32 → xSt → Prop}  (H : B_M_coat_45 h d x1 x2 s0 0 0 S K) : B_M_coat_38 h d x1 x2 s0 S K := by
  unfold B_M_coat_38
  refine x_istore_n (x_at tdX12_coat 22 rfl) rfl (by decide) ?_
  refine x_iconst (x_at tdX12_coat 23 rfl) k_c_0 ?_
  refine x_istore (x_at tdX12_coat 24 rfl) (by decide) ?_
  refine x_iconst (x_at tdX12_coat 25 rfl) k_c_0 ?_
  refine x_istore (x_at tdX12_coat 26 rfl) (by decide) ?_
  refine x_weak (lv' := [(0, .ref (x_ad (gM h) 0)), (1, .int x1), (2, .int x2), (3, .int s0), (4, .int 0), (5, .int 0)]) ⟨rfl, rfl, rfl, rfl, rfl, rfl, trivial⟩ ?_
  exact H
theorem b_M_coat_45 {h : xH} {d : Nat}  {x1 : Int32} {x2 : Int32} {x3 : Int32} {x4 : Int32} {x5 : Int32} {S : xSt} {K : Int32 → xSt → Prop}  (H : (((S.1 0 58) ≤ x5 → K x4 S) ∧ (¬ (S.1 0 58) ≤ x5 → (vp_in x5 24 ∧ ((¬ (S.1 34 (x5 : Int32).toNatClampNeg) = x3 → B_M_coat_97 h d x1 x2 x3 x5 x4 S K) ∧ ((S.1 34 (x5 : Int32).toNatClampNeg) = x3 → ((¬ x2 = 1 → (vp_in x5 10 ∧ B_M_coat_89 h d x1 x2 x3 x5 (S.1 26 (x5 : Int32).toNatClampNeg) x4 S K)) ∧ (x2 = 1 → (vp_in x5 10 ∧ B_M_coat_89 h d x1 x2 x3 x5 (S.1 27 (x5 : Int32).toNatClampNeg) x4 S K))))))))) : B_M_coat_45 h d x1 x2 x3 x4 x5 S K := by
  unfold B_M_coat_45
  refine x_iload (x_at tdX12_coat 27 rfl) rfl ?_
  refine x_aload_n (x_at tdX12_coat 28 rfl) rfl rfl ?_
  refine gfM_0_58 (x_at tdX12_coat 29 rfl) wf_X12_429 ?_
  refine x_ic_ge 113 (x_at tdX12_coat 30 rfl) rfl (fun c => ?_) (fun c => ?_)
  · have H := H.1 c
    refine x_iload (x_at tdX12_coat 62 rfl) rfl ?_
    exact x_ireturn (ty := .int) rfl rfl (x_at tdX12_coat 63 rfl) ⟨_, rfl, H⟩
  · have H := H.2 c
    refine x_iload (x_at tdX12_coat 31 rfl) rfl ?_
    refine x_aload_n (x_at tdX12_coat 32 rfl) rfl rfl ?_
    refine gfM_0_67 (x_at tdX12_coat 33 rfl) wf_X12_118 ?_
    refine x_iload (x_at tdX12_coat 34 rfl) rfl ?_
    refine x_iald (lM_34 h) (x_at tdX12_coat 35 rfl) H.1 ?_
    have H := H.2
    refine x_iload_n (x_at tdX12_coat 36 rfl) rfl rfl ?_
    refine x_ic_ne 97 (x_at tdX12_coat 37 rfl) rfl (fun c => ?_) (fun c => ?_)
    · have H := H.1 c
      refine x_weak (lv' := [(0, .ref (x_ad (gM h) 0)), (1, .int x1), (2, .int x2), (3, .int x3), (5, .int x5)]) ⟨rfl, rfl, rfl, rfl, rfl, trivial⟩ ?_
      exact H
    · have H := H.2 c
      refine x_iload_n (x_at tdX12_coat 38 rfl) rfl rfl ?_
      refine x_iconst (x_at tdX12_coat 39 rfl) k_c_1 ?_
      refine x_ic_ne 82 (x_at tdX12_coat 40 rfl) rfl (fun c => ?_) (fun c => ?_)
      · have H := H.1 c
        refine x_aload_n (x_at tdX12_coat 46 rfl) rfl rfl ?_
        refine gfM_0_41 (x_at tdX12_coat 47 rfl) wf_X12_90 ?_
        refine x_iload (x_at tdX12_coat 48 rfl) rfl ?_
        refine x_iald (lM_26 h) (x_at tdX12_coat 49 rfl) H.1 ?_
        have H := H.2
        refine x_weak (lv' := [(0, .ref (x_ad (gM h) 0)), (1, .int x1), (2, .int x2), (3, .int x3), (5, .int x5)]) ⟨rfl, rfl, rfl, rfl, rfl, trivial⟩ ?_
        exact H
      · have H := H.2 c
        refine x_aload_n (x_at tdX12_coat 41 rfl) rfl rfl ?_
        refine gfM_0_42 (x_at tdX12_coat 42 rfl) wf_X12_93 ?_
        refine x_iload (x_at tdX12_coat 43 rfl) rfl ?_
        refine x_iald (lM_27 h) (x_at tdX12_coat 44 rfl) H.1 ?_
        have H := H.2
        refine x_goto 89 (x_at tdX12_coat 45 rfl) rfl ?_
        refine x_weak (lv' := [(0, .ref (x_ad (gM h) 0)), (1, .int x1), (2, .int x2), (3, .int x3), (5, .int x5)]) ⟨rfl, rfl, rfl, rfl, rfl, trivial⟩ ?_
        exact H
theorem b_M_coat_89 {h : xH} {d : Nat}  {x1 : Int32} {x2 : Int32} {x3 : Int32} {x5 : Int32} {s0 : Int32} {s1 : Int32} {S : xSt} {K : Int32 → xSt → Prop}  (H : ((¬ s0 = x1 → B_M_coat_97 h d x1 x2 x3 x5 s1 S K) ∧ (s0 = x1 → B_M_coat_98 h d x1 x2 x3 x5 1 s1 S K))) : B_M_coat_89 h d x1 x2 x3 x5 s0 s1 S K := by
  unfold B_M_coat_89
  refine x_iload_n (x_at tdX12_coat 50 rfl) rfl rfl ?_
  refine x_ic_ne 97 (x_at tdX12_coat 51 rfl) rfl (fun c => ?_) (fun c => ?_)
  · have H := H.1 c
    refine x_weak (lv' := [(0, .ref (x_ad (gM h) 0)), (1, .int x1), (2, .int x2), (3, .int x3), (5, .int x5)]) ⟨rfl, rfl, rfl, rfl, rfl, trivial⟩ ?_
    exact H
  · have H := H.2 c
    refine x_iconst (x_at tdX12_coat 52 rfl) k_c_1 ?_
    refine x_goto 98 (x_at tdX12_coat 53 rfl) rfl ?_
    refine x_weak (lv' := [(0, .ref (x_ad (gM h) 0)), (1, .int x1), (2, .int x2), (3, .int x3), (5, .int x5)]) ⟨rfl, rfl, rfl, rfl, rfl, trivial⟩ ?_
    exact H
theorem b_M_coat_97 {h : xH} {d : Nat}  {x1 : Int32} {x2 : Int32} {x3 : Int32} {x5 : Int32} {s0 : Int32} {S : xSt} {K : Int32 → xSt → Prop}  (H : B_M_coat_98 h d x1 x2 x3 x5 0 s0 S K) : B_M_coat_97 h d x1 x2 x3 x5 s0 S K := by
  unfold B_M_coat_97
  refine x_iconst (x_at tdX12_coat 54 rfl) k_c_0 ?_
  refine x_weak (lv' := [(0, .ref (x_ad (gM h) 0)), (1, .int x1), (2, .int x2), (3, .int x3), (5, .int x5)]) ⟨rfl, rfl, rfl, rfl, rfl, trivial⟩ ?_
  exact H
theorem b_M_coat_98 {h : xH} {d : Nat}  {x1 : Int32} {x2 : Int32} {x3 : Int32} {x5 : Int32} {s0 : Int32} {s1 : Int32} {S : xSt} {K : Int32 → xSt → Prop}  (H : M_M_truth h (d + 1) s0 S (fun (r1 : Int32) (S1 : xSt) => B_M_coat_45 h d x1 x2 x3 (s1 ||| (r1 <<< (x5 &&& 31))) (x5 + 1) S1 K)) : B_M_coat_98 h d x1 x2 x3 x5 s0 s1 S K := by
  unfold B_M_coat_98
  refine x_cSi (as := [.int s0]) (rest := [.int s1]) mi_X12_truth (x_at tdX12_coat 55 rfl) wm_X12_344 rfl (Nat.le_of_ble_eq_true rfl) rfl H (fun r1 S1 H => ?_)
  refine x_iload (x_at tdX12_coat 56 rfl) rfl ?_
  refine x_ishl (x_at tdX12_coat 57 rfl) ?_
  refine x_ior (x_at tdX12_coat 58 rfl) ?_
  refine x_istore (x_at tdX12_coat 59 rfl) (by decide) ?_
  refine x_iinc (x_at tdX12_coat 60 rfl) rfl (k_inc_1 _) (by decide) ?_
  refine x_goto 45 (x_at tdX12_coat 61 rfl) rfl ?_
  refine x_weak (lv' := [(0, .ref (x_ad (gM h) 0)), (1, .int x1), (2, .int x2), (3, .int x3), (4, .int (s1 ||| (r1 <<< (x5 &&& 31)))), (5, .int (x5 + 1))]) ⟨rfl, rfl, rfl, rfl, rfl, rfl, trivial⟩ ?_
  exact H
theorem e_M_free {h : xH} {d : Nat}  {S : xSt} {K : Int32 → xSt → Prop}  (H : B_M_free_4 h d 0 0 S K) : M_M_free h d S K := by
  refine x_enter pn_X12 (Nat.le_of_ble_eq_true rfl) ?_
  show X (gM h) _ _ 0 [(0, .ref (x_ad (gM h) 0))] [] S _
  refine x_iconst (x_at tdX12_free 0 rfl) k_c_0 ?_
  refine x_istore_n (x_at tdX12_free 1 rfl) rfl (by decide) ?_
  refine x_iconst (x_at tdX12_free 2 rfl) k_c_0 ?_
  refine x_istore_n (x_at tdX12_free 3 rfl) rfl (by decide) ?_
  refine x_weak (lv' := [(0, .ref (x_ad (gM h) 0)), (1, .int 0), (2, .int 0)]) ⟨rfl, rfl, rfl, trivial⟩ ?_
  exact H
theorem b_M_free_4 {h : xH} {d : Nat}  {x1 : Int32} {x2 : Int32} {S : xSt} {K : Int32 → xSt → Prop}  (H : (((S.1 0 56) ≤ x2 → K x1 S) ∧ (¬ (S.1 0 56) ≤ x2 → M_M_coat h d x2 0 S (fun (r1 : Int32) (S1 : xSt) => ((¬ r1 = 0 → B_M_free_27 h d x2 0 x1 S1 K) ∧ (r1 = 0 → B_M_free_27 h d x2 1 x1 S1 K)))))) : B_M_free_4 h d x1 x2 S K := by
  unfold B_M_free_4
  refine x_iload_n (x_at tdX12_free 4 rfl) rfl rfl ?_
  refine x_aload_n (x_at tdX12_free 5 rfl) rfl rfl ?_
  refine gfM_0_56 (x_at tdX12_free 6 rfl) wf_X12_423 ?_
  refine x_ic_ge 40 (x_at tdX12_free 7 rfl) rfl (fun c => ?_) (fun c => ?_)
  · have H := H.1 c
    refine x_iload_n (x_at tdX12_free 24 rfl) rfl rfl ?_
    exact x_ireturn (ty := .int) rfl rfl (x_at tdX12_free 25 rfl) ⟨_, rfl, H⟩
  · have H := H.2 c
    refine x_iload_n (x_at tdX12_free 8 rfl) rfl rfl ?_
    refine x_aload_n (x_at tdX12_free 9 rfl) rfl rfl ?_
    refine x_iload_n (x_at tdX12_free 10 rfl) rfl rfl ?_
    refine x_iconst (x_at tdX12_free 11 rfl) k_c_0 ?_
    refine x_cVi (as := [.int x2, .int 0]) (rest := [.int x1]) mi_X12_coat vc_12 (lM_0 h) (x_at tdX12_free 12 rfl) wm_X12_463 rfl (Nat.le_of_ble_eq_true rfl) rfl H (fun r1 S1 H => ?_)
    refine x_if_ne 26 (x_at tdX12_free 13 rfl) rfl (fun c => ?_) (fun c => ?_)
    · have H := H.1 c
      refine x_iconst (x_at tdX12_free 16 rfl) k_c_0 ?_
      refine x_weak (lv' := [(0, .ref (x_ad (gM h) 0)), (2, .int x2)]) ⟨rfl, rfl, trivial⟩ ?_
      exact H
    · have H := H.2 c
      refine x_iconst (x_at tdX12_free 14 rfl) k_c_1 ?_
      refine x_goto 27 (x_at tdX12_free 15 rfl) rfl ?_
      refine x_weak (lv' := [(0, .ref (x_ad (gM h) 0)), (2, .int x2)]) ⟨rfl, rfl, trivial⟩ ?_
      exact H
theorem b_M_free_27 {h : xH} {d : Nat}  {x2 : Int32} {s0 : Int32} {s1 : Int32} {S : xSt} {K : Int32 → xSt → Prop}  (H : M_M_truth h (d + 2) s0 S (fun (r1 : Int32) (S1 : xSt) => B_M_free_4 h d (s1 ||| (r1 <<< (x2 &&& 31))) (x2 + 1) S1 K)) : B_M_free_27 h d x2 s0 s1 S K := by
  unfold B_M_free_27
  refine x_cSi (as := [.int s0]) (rest := [.int s1]) mi_X12_truth (x_at tdX12_free 17 rfl) wm_X12_344 rfl (Nat.le_of_ble_eq_true rfl) rfl H (fun r1 S1 H => ?_)
  refine x_iload_n (x_at tdX12_free 18 rfl) rfl rfl ?_
  refine x_ishl (x_at tdX12_free 19 rfl) ?_
  refine x_ior (x_at tdX12_free 20 rfl) ?_
  refine x_istore_n (x_at tdX12_free 21 rfl) rfl (by decide) ?_
  refine x_iinc (x_at tdX12_free 22 rfl) rfl (k_inc_1 _) (by decide) ?_
  refine x_goto 4 (x_at tdX12_free 23 rfl) rfl ?_
  refine x_weak (lv' := [(0, .ref (x_ad (gM h) 0)), (1, .int (s1 ||| (r1 <<< (x2 &&& 31)))), (2, .int (x2 + 1))]) ⟨rfl, rfl, rfl, trivial⟩ ?_
  exact H
theorem e_M_isDeed {h : xH} {d : Nat} {x1 : Int32} {S : xSt} {K : Int32 → xSt → Prop}  (H : M_M_isIn h d x1 0 ((S.1 0 57) - (1 : Int32)) S (fun (r1 : Int32) (S1 : xSt) => (zb r1 ∧ K r1 S1))) : M_M_isDeed h d x1 S K := by
  refine x_enter pn_X12 (Nat.le_of_ble_eq_true rfl) ?_
  show X (gM h) _ _ 0 [(0, .ref (x_ad (gM h) 0)), (1, .int x1)] [] S _
  refine x_iload_n (x_at tdX12_isDeed 0 rfl) rfl rfl ?_
  refine x_iconst (x_at tdX12_isDeed 1 rfl) k_c_0 ?_
  refine x_aload_n (x_at tdX12_isDeed 2 rfl) rfl rfl ?_
  refine gfM_0_57 (x_at tdX12_isDeed 3 rfl) wf_X12_426 ?_
  refine x_iconst (x_at tdX12_isDeed 4 rfl) k_c_1 ?_
  refine x_isub (x_at tdX12_isDeed 5 rfl) ?_
  refine x_cSi (as := [.int x1, .int 0, .int ((S.1 0 57) - (1 : Int32))]) (rest := []) mi_X12_isIn (x_at tdX12_isDeed 6 rfl) wm_X12_453 rfl (Nat.le_of_ble_eq_true rfl) rfl H (fun r1 S1 H => ?_)
  exact x_ireturn (ty := .boolean) rfl H.1.1 (x_at tdX12_isDeed 7 rfl) ⟨_, rfl, H.2⟩
theorem e_M_isOn {h : xH} {d : Nat} {x1 : Int32} {S : xSt} {K : Int32 → xSt → Prop}  (H : (vp_in x1 24 ∧ ((¬ (S.1 34 (x1 : Int32).toNatClampNeg) = 0 → K 0 S) ∧ ((S.1 34 (x1 : Int32).toNatClampNeg) = 0 → K 1 S)))) : M_M_isOn h d x1 S K := by
  refine x_enter pn_X12 (Nat.le_of_ble_eq_true rfl) ?_
  show X (gM h) _ _ 0 [(0, .ref (x_ad (gM h) 0)), (1, .int x1)] [] S _
  refine x_aload_n (x_at tdX12_isOn 0 rfl) rfl rfl ?_
  refine gfM_0_67 (x_at tdX12_isOn 1 rfl) wf_X12_118 ?_
  refine x_iload_n (x_at tdX12_isOn 2 rfl) rfl rfl ?_
  refine x_iald (lM_34 h) (x_at tdX12_isOn 3 rfl) H.1 ?_
  have H := H.2
  refine x_if_ne 13 (x_at tdX12_isOn 4 rfl) rfl (fun c => ?_) (fun c => ?_)
  · have H := H.1 c
    refine x_iconst (x_at tdX12_isOn 7 rfl) k_c_0 ?_
    exact x_ireturn (ty := .boolean) rfl zb0.1 (x_at tdX12_isOn 8 rfl) ⟨_, rfl, H⟩
  · have H := H.2 c
    refine x_iconst (x_at tdX12_isOn 5 rfl) k_c_1 ?_
    refine x_goto 14 (x_at tdX12_isOn 6 rfl) rfl ?_
    exact x_ireturn (ty := .boolean) rfl zb1.1 (x_at tdX12_isOn 8 rfl) ⟨_, rfl, H⟩
theorem e_M_sworn {h : xH} {d : Nat} {x1 : Int32} {x2 : Int32} {S : xSt} {K : Int32 → xSt → Prop}  (H : M_M_isDeed h d x1 S (fun (r1 : Int32) (S1 : xSt) => ((r1 = 0 → K (-1) S1) ∧ (¬ r1 = 0 → M_M_isIn h (d + 1) x2 0 1 S1 (fun (r2 : Int32) (S2 : xSt) => ((¬ r2 = 0 → B_M_sworn_24 h d x1 x2 0 0 S2 K) ∧ (r2 = 0 → K (-1) S2))))))) : M_M_sworn h d x1 x2 S K := by
  refine x_enter pn_X12 (Nat.le_of_ble_eq_true rfl) ?_
  show X (gM h) _ _ 0 [(0, .ref (x_ad (gM h) 0)), (1, .int x1), (2, .int x2)] [] S _
  refine x_aload_n (x_at tdX12_sworn 0 rfl) rfl rfl ?_
  refine x_iload_n (x_at tdX12_sworn 1 rfl) rfl rfl ?_
  refine x_cVi (as := [.int x1]) (rest := []) mi_X12_isDeed vc_12 (lM_0 h) (x_at tdX12_sworn 2 rfl) wm_X12_466 rfl (Nat.le_of_ble_eq_true rfl) rfl H (fun r1 S1 H => ?_)
  refine x_if_eq 17 (x_at tdX12_sworn 3 rfl) rfl (fun c => ?_) (fun c => ?_)
  · have H := H.1 c
    refine x_iconst (x_at tdX12_sworn 9 rfl) k_c_m1 ?_
    exact x_ireturn (ty := .int) rfl rfl (x_at tdX12_sworn 10 rfl) ⟨_, rfl, H⟩
  · have H := H.2 c
    refine x_iload_n (x_at tdX12_sworn 4 rfl) rfl rfl ?_
    refine x_iconst (x_at tdX12_sworn 5 rfl) k_c_0 ?_
    refine x_iconst (x_at tdX12_sworn 6 rfl) k_c_1 ?_
    refine x_cSi (as := [.int x2, .int 0, .int 1]) (rest := []) mi_X12_isIn (x_at tdX12_sworn 7 rfl) wm_X12_453 rfl (Nat.le_of_ble_eq_true rfl) rfl H (fun r2 S2 H => ?_)
    refine x_if_ne 19 (x_at tdX12_sworn 8 rfl) rfl (fun c => ?_) (fun c => ?_)
    · have H := H.1 c
      refine x_iconst (x_at tdX12_sworn 11 rfl) k_c_0 ?_
      refine x_istore_n (x_at tdX12_sworn 12 rfl) rfl (by decide) ?_
      refine x_iconst (x_at tdX12_sworn 13 rfl) k_c_0 ?_
      refine x_istore (x_at tdX12_sworn 14 rfl) (by decide) ?_
      refine x_weak (lv' := [(0, .ref (x_ad (gM h) 0)), (1, .int x1), (2, .int x2), (3, .int 0), (4, .int 0)]) ⟨rfl, rfl, rfl, rfl, rfl, trivial⟩ ?_
      exact H
    · have H := H.2 c
      refine x_iconst (x_at tdX12_sworn 9 rfl) k_c_m1 ?_
      exact x_ireturn (ty := .int) rfl rfl (x_at tdX12_sworn 10 rfl) ⟨_, rfl, H⟩
theorem b_M_sworn_24 {h : xH} {d : Nat}  {x1 : Int32} {x2 : Int32} {x3 : Int32} {x4 : Int32} {S : xSt} {K : Int32 → xSt → Prop}  (H : (((S.1 0 58) ≤ x4 → K x3 S) ∧ (¬ (S.1 0 58) ≤ x4 → M_M_isOn h (d + 1) x4 S (fun (r1 : Int32) (S1 : xSt) => ((r1 = 0 → B_M_sworn_84 h d x1 x2 x3 x4 S1 K) ∧ (¬ r1 = 0 → (vp_in x4 10 ∧ ((¬ (S1.1 28 (x4 : Int32).toNatClampNeg) = x1 → B_M_sworn_84 h d x1 x2 x3 x4 S1 K) ∧ ((S1.1 28 (x4 : Int32).toNatClampNeg) = x1 → (vp_in x4 10 ∧ ((¬ x2 = 0 → B_M_sworn_69 h d x1 x2 x3 x4 0 (S1.1 33 (x4 : Int32).toNatClampNeg) S1 K) ∧ (x2 = 0 → B_M_sworn_69 h d x1 x2 x3 x4 1 (S1.1 33 (x4 : Int32).toNatClampNeg) S1 K)))))))))))) : B_M_sworn_24 h d x1 x2 x3 x4 S K := by
  unfold B_M_sworn_24
  refine x_iload (x_at tdX12_sworn 15 rfl) rfl ?_
  refine x_aload_n (x_at tdX12_sworn 16 rfl) rfl rfl ?_
  refine gfM_0_58 (x_at tdX12_sworn 17 rfl) wf_X12_429 ?_
  refine x_ic_ge 90 (x_at tdX12_sworn 18 rfl) rfl (fun c => ?_) (fun c => ?_)
  · have H := H.1 c
    refine x_iload_n (x_at tdX12_sworn 50 rfl) rfl rfl ?_
    exact x_ireturn (ty := .int) rfl rfl (x_at tdX12_sworn 51 rfl) ⟨_, rfl, H⟩
  · have H := H.2 c
    refine x_aload_n (x_at tdX12_sworn 19 rfl) rfl rfl ?_
    refine x_iload (x_at tdX12_sworn 20 rfl) rfl ?_
    refine x_cVi (as := [.int x4]) (rest := []) mi_X12_isOn vc_12 (lM_0 h) (x_at tdX12_sworn 21 rfl) wm_X12_469 rfl (Nat.le_of_ble_eq_true rfl) rfl H (fun r1 S1 H => ?_)
    refine x_if_eq 84 (x_at tdX12_sworn 22 rfl) rfl (fun c => ?_) (fun c => ?_)
    · have H := H.1 c
      refine x_weak (lv' := [(0, .ref (x_ad (gM h) 0)), (1, .int x1), (2, .int x2), (3, .int x3), (4, .int x4)]) ⟨rfl, rfl, rfl, rfl, rfl, trivial⟩ ?_
      exact H
    · have H := H.2 c
      refine x_aload_n (x_at tdX12_sworn 23 rfl) rfl rfl ?_
      refine gfM_0_43 (x_at tdX12_sworn 24 rfl) wf_X12_96 ?_
      refine x_iload (x_at tdX12_sworn 25 rfl) rfl ?_
      refine x_iald (lM_28 h) (x_at tdX12_sworn 26 rfl) H.1 ?_
      have H := H.2
      refine x_iload_n (x_at tdX12_sworn 27 rfl) rfl rfl ?_
      refine x_ic_ne 84 (x_at tdX12_sworn 28 rfl) rfl (fun c => ?_) (fun c => ?_)
      · have H := H.1 c
        refine x_weak (lv' := [(0, .ref (x_ad (gM h) 0)), (1, .int x1), (2, .int x2), (3, .int x3), (4, .int x4)]) ⟨rfl, rfl, rfl, rfl, rfl, trivial⟩ ?_
        exact H
      · have H := H.2 c
        refine x_aload_n (x_at tdX12_sworn 29 rfl) rfl rfl ?_
        refine gfM_0_48 (x_at tdX12_sworn 30 rfl) wf_X12_112 ?_
        refine x_iload (x_at tdX12_sworn 31 rfl) rfl ?_
        refine x_zald (lM_33 h) (x_at tdX12_sworn 32 rfl) H.1 ?_
        have H := H.2
        refine x_iload_n (x_at tdX12_sworn 33 rfl) rfl rfl ?_
        refine x_if_ne 68 (x_at tdX12_sworn 34 rfl) rfl (fun c => ?_) (fun c => ?_)
        · have H := H.1 c
          refine x_iconst (x_at tdX12_sworn 37 rfl) k_c_0 ?_
          refine x_weak (lv' := [(0, .ref (x_ad (gM h) 0)), (1, .int x1), (2, .int x2), (3, .int x3), (4, .int x4)]) ⟨rfl, rfl, rfl, rfl, rfl, trivial⟩ ?_
          exact H
        · have H := H.2 c
          refine x_iconst (x_at tdX12_sworn 35 rfl) k_c_1 ?_
          refine x_goto 69 (x_at tdX12_sworn 36 rfl) rfl ?_
          refine x_weak (lv' := [(0, .ref (x_ad (gM h) 0)), (1, .int x1), (2, .int x2), (3, .int x3), (4, .int x4)]) ⟨rfl, rfl, rfl, rfl, rfl, trivial⟩ ?_
          exact H
theorem b_M_sworn_69 {h : xH} {d : Nat}  {x1 : Int32} {x2 : Int32} {x3 : Int32} {x4 : Int32} {s0 : Int32} {s1 : Int32} {S : xSt} {K : Int32 → xSt → Prop}  (H : ((¬ s1 = s0 → B_M_sworn_84 h d x1 x2 x3 x4 S K) ∧ (s1 = s0 → (vp_in x4 10 ∧ B_M_sworn_84 h d x1 x2 (x3 ||| ((1 : Int32) <<< ((S.1 26 (x4 : Int32).toNatClampNeg) &&& 31))) x4 S K)))) : B_M_sworn_69 h d x1 x2 x3 x4 s0 s1 S K := by
  unfold B_M_sworn_69
  refine x_ic_ne 84 (x_at tdX12_sworn 38 rfl) rfl (fun c => ?_) (fun c => ?_)
  · have H := H.1 c
    refine x_weak (lv' := [(0, .ref (x_ad (gM h) 0)), (1, .int x1), (2, .int x2), (3, .int x3), (4, .int x4)]) ⟨rfl, rfl, rfl, rfl, rfl, trivial⟩ ?_
    exact H
  · have H := H.2 c
    refine x_iload_n (x_at tdX12_sworn 39 rfl) rfl rfl ?_
    refine x_iconst (x_at tdX12_sworn 40 rfl) k_c_1 ?_
    refine x_aload_n (x_at tdX12_sworn 41 rfl) rfl rfl ?_
    refine gfM_0_41 (x_at tdX12_sworn 42 rfl) wf_X12_90 ?_
    refine x_iload (x_at tdX12_sworn 43 rfl) rfl ?_
    refine x_iald (lM_26 h) (x_at tdX12_sworn 44 rfl) H.1 ?_
    have H := H.2
    refine x_ishl (x_at tdX12_sworn 45 rfl) ?_
    refine x_ior (x_at tdX12_sworn 46 rfl) ?_
    refine x_istore_n (x_at tdX12_sworn 47 rfl) rfl (by decide) ?_
    refine x_weak (lv' := [(0, .ref (x_ad (gM h) 0)), (1, .int x1), (2, .int x2), (3, .int (x3 ||| ((1 : Int32) <<< ((S.1 26 (x4 : Int32).toNatClampNeg) &&& 31)))), (4, .int x4)]) ⟨rfl, rfl, rfl, rfl, rfl, trivial⟩ ?_
    exact H
theorem b_M_sworn_84 {h : xH} {d : Nat}  {x1 : Int32} {x2 : Int32} {x3 : Int32} {x4 : Int32} {S : xSt} {K : Int32 → xSt → Prop}  (H : B_M_sworn_24 h d x1 x2 x3 (x4 + 1) S K) : B_M_sworn_84 h d x1 x2 x3 x4 S K := by
  unfold B_M_sworn_84
  refine x_iinc (x_at tdX12_sworn 48 rfl) rfl (k_inc_1 _) (by decide) ?_
  refine x_goto 24 (x_at tdX12_sworn 49 rfl) rfl ?_
  refine x_weak (lv' := [(0, .ref (x_ad (gM h) 0)), (1, .int x1), (2, .int x2), (3, .int x3), (4, .int (x4 + 1))]) ⟨rfl, rfl, rfl, rfl, rfl, trivial⟩ ?_
  exact H
theorem e_M_many {h : xH} {d : Nat} {x1 : Int32} {S : xSt} {K : Int32 → xSt → Prop}  (H : M_M_isIn h d x1 0 4 S (fun (r1 : Int32) (S1 : xSt) => ((¬ r1 = 0 → B_M_many_15 h d x1 0 0 S1 K) ∧ (r1 = 0 → K (-1) S1)))) : M_M_many h d x1 S K := by
  refine x_enter pn_X12 (Nat.le_of_ble_eq_true rfl) ?_
  show X (gM h) _ _ 0 [(0, .ref (x_ad (gM h) 0)), (1, .int x1)] [] S _
  refine x_iload_n (x_at tdX12_many 0 rfl) rfl rfl ?_
  refine x_iconst (x_at tdX12_many 1 rfl) k_c_0 ?_
  refine x_iconst (x_at tdX12_many 2 rfl) k_c_4 ?_
  refine x_cSi (as := [.int x1, .int 0, .int 4]) (rest := []) mi_X12_isIn (x_at tdX12_many 3 rfl) wm_X12_453 rfl (Nat.le_of_ble_eq_true rfl) rfl H (fun r1 S1 H => ?_)
  refine x_if_ne 11 (x_at tdX12_many 4 rfl) rfl (fun c => ?_) (fun c => ?_)
  · have H := H.1 c
    refine x_iconst (x_at tdX12_many 7 rfl) k_c_0 ?_
    refine x_istore_n (x_at tdX12_many 8 rfl) rfl (by decide) ?_
    refine x_iconst (x_at tdX12_many 9 rfl) k_c_0 ?_
    refine x_istore_n (x_at tdX12_many 10 rfl) rfl (by decide) ?_
    refine x_weak (lv' := [(0, .ref (x_ad (gM h) 0)), (1, .int x1), (2, .int 0), (3, .int 0)]) ⟨rfl, rfl, rfl, rfl, trivial⟩ ?_
    exact H
  · have H := H.2 c
    refine x_iconst (x_at tdX12_many 5 rfl) k_c_m1 ?_
    exact x_ireturn (ty := .int) rfl rfl (x_at tdX12_many 6 rfl) ⟨_, rfl, H⟩
theorem b_M_many_15 {h : xH} {d : Nat}  {x1 : Int32} {x2 : Int32} {x3 : Int32} {S : xSt} {K : Int32 → xSt → Prop}  (H : (((S.1 0 58) ≤ x3 → K x2 S) ∧ (¬ (S.1 0 58) ≤ x3 → (vp_in x3 24 ∧ ((¬ (S.1 34 (x3 : Int32).toNatClampNeg) = x1 → B_M_many_39 h d x1 x3 0 x2 S K) ∧ ((S.1 34 (x3 : Int32).toNatClampNeg) = x1 → B_M_many_39 h d x1 x3 1 x2 S K)))))) : B_M_many_15 h d x1 x2 x3 S K := by
  unfold B_M_many_15
  refine x_iload_n (x_at tdX12_many 11 rfl) rfl rfl ?_
  refine x_aload_n (x_at tdX12_many 12 rfl) rfl rfl ?_
  refine gfM_0_58 (x_at tdX12_many 13 rfl) wf_X12_429 ?_
  refine x_ic_ge 50 (x_at tdX12_many 14 rfl) rfl (fun c => ?_) (fun c => ?_)
  · have H := H.1 c
    refine x_iload_n (x_at tdX12_many 30 rfl) rfl rfl ?_
    exact x_ireturn (ty := .int) rfl rfl (x_at tdX12_many 31 rfl) ⟨_, rfl, H⟩
  · have H := H.2 c
    refine x_iload_n (x_at tdX12_many 15 rfl) rfl rfl ?_
    refine x_aload_n (x_at tdX12_many 16 rfl) rfl rfl ?_
    refine gfM_0_67 (x_at tdX12_many 17 rfl) wf_X12_118 ?_
    refine x_iload_n (x_at tdX12_many 18 rfl) rfl rfl ?_
    refine x_iald (lM_34 h) (x_at tdX12_many 19 rfl) H.1 ?_
    have H := H.2
    refine x_iload_n (x_at tdX12_many 20 rfl) rfl rfl ?_
    refine x_ic_ne 38 (x_at tdX12_many 21 rfl) rfl (fun c => ?_) (fun c => ?_)
    · have H := H.1 c
      refine x_iconst (x_at tdX12_many 24 rfl) k_c_0 ?_
      refine x_weak (lv' := [(0, .ref (x_ad (gM h) 0)), (1, .int x1), (3, .int x3)]) ⟨rfl, rfl, rfl, trivial⟩ ?_
      exact H
    · have H := H.2 c
      refine x_iconst (x_at tdX12_many 22 rfl) k_c_1 ?_
      refine x_goto 39 (x_at tdX12_many 23 rfl) rfl ?_
      refine x_weak (lv' := [(0, .ref (x_ad (gM h) 0)), (1, .int x1), (3, .int x3)]) ⟨rfl, rfl, rfl, trivial⟩ ?_
      exact H
theorem b_M_many_39 {h : xH} {d : Nat}  {x1 : Int32} {x3 : Int32} {s0 : Int32} {s1 : Int32} {S : xSt} {K : Int32 → xSt → Prop}  (H : M_M_truth h d s0 S (fun (r1 : Int32) (S1 : xSt) => B_M_many_15 h d x1 (s1 + r1) (x3 + 1) S1 K)) : B_M_many_39 h d x1 x3 s0 s1 S K := by
  unfold B_M_many_39
  refine x_cSi (as := [.int s0]) (rest := [.int s1]) mi_X12_truth (x_at tdX12_many 25 rfl) wm_X12_344 rfl (Nat.le_of_ble_eq_true rfl) rfl H (fun r1 S1 H => ?_)
  refine x_iadd (x_at tdX12_many 26 rfl) ?_
  refine x_istore_n (x_at tdX12_many 27 rfl) rfl (by decide) ?_
  refine x_iinc (x_at tdX12_many 28 rfl) rfl (k_inc_1 _) (by decide) ?_
  refine x_goto 15 (x_at tdX12_many 29 rfl) rfl ?_
  refine x_weak (lv' := [(0, .ref (x_ad (gM h) 0)), (1, .int x1), (2, .int (s1 + r1)), (3, .int (x3 + 1))]) ⟨rfl, rfl, rfl, rfl, trivial⟩ ?_
  exact H
theorem e_M_act {h : xH} {d : Nat}  {S : xSt} {K : xSt → Prop}  (H : ((¬ (S.1 0 69) = 40 → B_M_act_49 h d S K) ∧ ((S.1 0 69) = 40 → B_M_act_11 h d 0 S K))) : M_M_act h d S K := by
  refine x_enter pn_X12 (Nat.le_of_ble_eq_true rfl) ?_
  show X (gM h) _ _ 0 [(0, .ref (x_ad (gM h) 0))] [] S _
  refine x_aload_n (x_at tdX12_act 0 rfl) rfl rfl ?_
  refine gfM_0_69 (x_at tdX12_act 1 rfl) wf_X12_441 ?_
  refine x_bipush (x_at tdX12_act 2 rfl) k_b_40 ?_
  refine x_ic_ne 49 (x_at tdX12_act 3 rfl) rfl (fun c => ?_) (fun c => ?_)
  · have H := H.1 c
    refine x_weak (lv' := [(0, .ref (x_ad (gM h) 0))]) ⟨rfl, trivial⟩ ?_
    exact H
  · have H := H.2 c
    refine x_iconst (x_at tdX12_act 4 rfl) k_c_0 ?_
    refine x_istore_n (x_at tdX12_act 5 rfl) rfl (by decide) ?_
    refine x_weak (lv' := [(0, .ref (x_ad (gM h) 0)), (1, .int 0)]) ⟨rfl, rfl, trivial⟩ ?_
    exact H
theorem b_M_act_11 {h : xH} {d : Nat}  {x1 : Int32} {S : xSt} {K : xSt → Prop}  (H : ((936 ≤ x1 → B_M_act_49 h d (x_putI S 0 69 ((S.1 0 69) - (1 : Int32))) K) ∧ (¬ 936 ≤ x1 → (vp_in ((24 : Int32) + x1) 960 ∧ (vp_in x1 960 ∧ B_M_act_11 h d (x1 + 1) (x_putI S 35 (x1 : Int32).toNatClampNeg (S.1 35 (((24 : Int32) + x1) : Int32).toNatClampNeg)) K))))) : B_M_act_11 h d x1 S K := by
  unfold B_M_act_11
  refine x_iload_n (x_at tdX12_act 6 rfl) rfl rfl ?_
  refine x_sipush (x_at tdX12_act 7 rfl) k_s_936 ?_
  refine x_ic_ge 39 (x_at tdX12_act 8 rfl) rfl (fun c => ?_) (fun c => ?_)
  · have H := H.1 c
    refine x_aload_n (x_at tdX12_act 21 rfl) rfl rfl ?_
    refine x_dup (x_at tdX12_act 22 rfl) rfl ?_
    refine gfM_0_69 (x_at tdX12_act 23 rfl) wf_X12_441 ?_
    refine x_iconst (x_at tdX12_act 24 rfl) k_c_1 ?_
    refine x_isub (x_at tdX12_act 25 rfl) ?_
    refine pfM_0_69 (x_at tdX12_act 26 rfl) wf_X12_441 ?_
    refine x_weak (lv' := [(0, .ref (x_ad (gM h) 0))]) ⟨rfl, trivial⟩ ?_
    exact H
  · have H := H.2 c
    refine x_aload_n (x_at tdX12_act 9 rfl) rfl rfl ?_
    refine gfM_0_68 (x_at tdX12_act 10 rfl) wf_X12_121 ?_
    refine x_iload_n (x_at tdX12_act 11 rfl) rfl rfl ?_
    refine x_aload_n (x_at tdX12_act 12 rfl) rfl rfl ?_
    refine gfM_0_68 (x_at tdX12_act 13 rfl) wf_X12_121 ?_
    refine x_bipush (x_at tdX12_act 14 rfl) k_b_24 ?_
    refine x_iload_n (x_at tdX12_act 15 rfl) rfl rfl ?_
    refine x_iadd (x_at tdX12_act 16 rfl) ?_
    refine x_iald (lM_35 h) (x_at tdX12_act 17 rfl) H.1 ?_
    have H := H.2
    refine x_iast (lM_35 h) (x_at tdX12_act 18 rfl) H.1 ?_
    have H := H.2
    refine x_iinc (x_at tdX12_act 19 rfl) rfl (k_inc_1 _) (by decide) ?_
    refine x_goto 11 (x_at tdX12_act 20 rfl) rfl ?_
    refine x_weak (lv' := [(0, .ref (x_ad (gM h) 0)), (1, .int (x1 + 1))]) ⟨rfl, rfl, trivial⟩ ?_
    exact H
theorem b_M_act_49 {h : xH} {d : Nat}   {S : xSt} {K : xSt → Prop}  (H : B_M_act_51 h d 0 S K) : B_M_act_49 h d S K := by
  unfold B_M_act_49
  refine x_iconst (x_at tdX12_act 27 rfl) k_c_0 ?_
  refine x_istore_n (x_at tdX12_act 28 rfl) rfl (by decide) ?_
  refine x_weak (lv' := [(0, .ref (x_ad (gM h) 0)), (1, .int 0)]) ⟨rfl, rfl, trivial⟩ ?_
  exact H
theorem b_M_act_51 {h : xH} {d : Nat}  {x1 : Int32} {S : xSt} {K : xSt → Prop}  (H : ((23 ≤ x1 → K (x_putI (x_putI S 0 69 ((S.1 0 69) + (1 : Int32))) 0 70 0)) ∧ (¬ 23 ≤ x1 → (vp_in x1 24 ∧ (vp_in (((24 : Int32) * (S.1 0 69)) + x1) 960 ∧ B_M_act_51 h d (x1 + 1) (x_putI S 35 ((((24 : Int32) * (S.1 0 69)) + x1) : Int32).toNatClampNeg (S.1 34 (x1 : Int32).toNatClampNeg)) K))))) : B_M_act_51 h d x1 S K := by
  unfold B_M_act_51
  refine x_iload_n (x_at tdX12_act 29 rfl) rfl rfl ?_
  refine x_bipush (x_at tdX12_act 30 rfl) k_b_23 ?_
  refine x_ic_ge 83 (x_at tdX12_act 31 rfl) rfl (fun c => ?_) (fun c => ?_)
  · have H := H.1 c
    refine x_aload_n (x_at tdX12_act 47 rfl) rfl rfl ?_
    refine x_dup (x_at tdX12_act 48 rfl) rfl ?_
    refine gfM_0_69 (x_at tdX12_act 49 rfl) wf_X12_441 ?_
    refine x_iconst (x_at tdX12_act 50 rfl) k_c_1 ?_
    refine x_iadd (x_at tdX12_act 51 rfl) ?_
    refine pfM_0_69 (x_at tdX12_act 52 rfl) wf_X12_441 ?_
    refine x_aload_n (x_at tdX12_act 53 rfl) rfl rfl ?_
    refine x_iconst (x_at tdX12_act 54 rfl) k_c_0 ?_
    refine pfM_0_70 (x_at tdX12_act 55 rfl) wf_X12_444 ?_
    exact x_return rfl (x_at tdX12_act 56 rfl) ⟨rfl, H⟩
  · have H := H.2 c
    refine x_aload_n (x_at tdX12_act 32 rfl) rfl rfl ?_
    refine gfM_0_68 (x_at tdX12_act 33 rfl) wf_X12_121 ?_
    refine x_bipush (x_at tdX12_act 34 rfl) k_b_24 ?_
    refine x_aload_n (x_at tdX12_act 35 rfl) rfl rfl ?_
    refine gfM_0_69 (x_at tdX12_act 36 rfl) wf_X12_441 ?_
    refine x_imul (x_at tdX12_act 37 rfl) ?_
    refine x_iload_n (x_at tdX12_act 38 rfl) rfl rfl ?_
    refine x_iadd (x_at tdX12_act 39 rfl) ?_
    refine x_aload_n (x_at tdX12_act 40 rfl) rfl rfl ?_
    refine gfM_0_67 (x_at tdX12_act 41 rfl) wf_X12_118 ?_
    refine x_iload_n (x_at tdX12_act 42 rfl) rfl rfl ?_
    refine x_iald (lM_34 h) (x_at tdX12_act 43 rfl) H.1 ?_
    have H := H.2
    refine x_iast (lM_35 h) (x_at tdX12_act 44 rfl) H.1 ?_
    have H := H.2
    refine x_iinc (x_at tdX12_act 45 rfl) rfl (k_inc_1 _) (by decide) ?_
    refine x_goto 51 (x_at tdX12_act 46 rfl) rfl ?_
    refine x_weak (lv' := [(0, .ref (x_ad (gM h) 0)), (1, .int (x1 + 1))]) ⟨rfl, rfl, trivial⟩ ?_
    exact H
theorem e_M_does {h : xH} {d : Nat} {x1 : Int32} {x2 : Int32} {S : xSt} {K : Int32 → xSt → Prop}  (H : M_M_isMan h d x1 S (fun (r1 : Int32) (S1 : xSt) => ((r1 = 0 → K (-1) S1) ∧ (¬ r1 = 0 → M_M_isDeed h d x2 S1 (fun (r2 : Int32) (S2 : xSt) => ((¬ r2 = 0 → M_M_act h (d + 1) S2 (fun (S3 : xSt) => B_M_does_30 h d x1 x2 0 0 0 S3 K)) ∧ (r2 = 0 → K (-1) S2))))))) : M_M_does h d x1 x2 S K := by
  refine x_enter pn_X12 (Nat.le_of_ble_eq_true rfl) ?_
  show X (gM h) _ _ 0 [(0, .ref (x_ad (gM h) 0)), (1, .int x1), (2, .int x2)] [] S _
  refine x_aload_n (x_at tdX12_does 0 rfl) rfl rfl ?_
  refine x_iload_n (x_at tdX12_does 1 rfl) rfl rfl ?_
  refine x_cVi (as := [.int x1]) (rest := []) mi_X12_isMan vc_12 (lM_0 h) (x_at tdX12_does 2 rfl) wm_X12_460 rfl (Nat.le_of_ble_eq_true rfl) rfl H (fun r1 S1 H => ?_)
  refine x_if_eq 16 (x_at tdX12_does 3 rfl) rfl (fun c => ?_) (fun c => ?_)
  · have H := H.1 c
    refine x_iconst (x_at tdX12_does 8 rfl) k_c_m1 ?_
    exact x_ireturn (ty := .int) rfl rfl (x_at tdX12_does 9 rfl) ⟨_, rfl, H⟩
  · have H := H.2 c
    refine x_aload_n (x_at tdX12_does 4 rfl) rfl rfl ?_
    refine x_iload_n (x_at tdX12_does 5 rfl) rfl rfl ?_
    refine x_cVi (as := [.int x2]) (rest := []) mi_X12_isDeed vc_12 (lM_0 h) (x_at tdX12_does 6 rfl) wm_X12_466 rfl (Nat.le_of_ble_eq_true rfl) rfl H (fun r2 S2 H => ?_)
    refine x_if_ne 18 (x_at tdX12_does 7 rfl) rfl (fun c => ?_) (fun c => ?_)
    · have H := H.1 c
      refine x_aload_n (x_at tdX12_does 10 rfl) rfl rfl ?_
      refine x_cVv (as := []) (rest := []) mi_X12_act vc_12 (lM_0 h) (x_at tdX12_does 11 rfl) wm_X12_472 rfl (Nat.le_of_ble_eq_true rfl) rfl H (fun S3 H => ?_)
      refine x_iconst (x_at tdX12_does 12 rfl) k_c_0 ?_
      refine x_istore_n (x_at tdX12_does 13 rfl) rfl (by decide) ?_
      refine x_iconst (x_at tdX12_does 14 rfl) k_c_0 ?_
      refine x_istore (x_at tdX12_does 15 rfl) (by decide) ?_
      refine x_iconst (x_at tdX12_does 16 rfl) k_c_0 ?_
      refine x_istore (x_at tdX12_does 17 rfl) (by decide) ?_
      refine x_weak (lv' := [(0, .ref (x_ad (gM h) 0)), (1, .int x1), (2, .int x2), (3, .int 0), (4, .int 0), (5, .int 0)]) ⟨rfl, rfl, rfl, rfl, rfl, rfl, trivial⟩ ?_
      exact H
    · have H := H.2 c
      refine x_iconst (x_at tdX12_does 8 rfl) k_c_m1 ?_
      exact x_ireturn (ty := .int) rfl rfl (x_at tdX12_does 9 rfl) ⟨_, rfl, H⟩
theorem b_M_does_30 {h : xH} {d : Nat}  {x1 : Int32} {x2 : Int32} {x3 : Int32} {x4 : Int32} {x5 : Int32} {S : xSt} {K : Int32 → xSt → Prop}  (H : (((S.1 0 58) ≤ x5 → K (((100 : Int32) * x3) + x4) S) ∧ (¬ (S.1 0 58) ≤ x5 → M_M_isOn h (d + 1) x5 S (fun (r1 : Int32) (S1 : xSt) => ((r1 = 0 → B_M_does_131 h d x1 x2 x3 x4 x5 S1 K) ∧ (¬ r1 = 0 → (vp_in x5 10 ∧ ((¬ (S1.1 26 (x5 : Int32).toNatClampNeg) = x1 → B_M_does_131 h d x1 x2 x3 x4 x5 S1 K) ∧ ((S1.1 26 (x5 : Int32).toNatClampNeg) = x1 → (vp_in x5 10 ∧ (((S1.1 28 (x5 : Int32).toNatClampNeg) = x2 → (vp_in x5 10 ∧ (((S1.1 33 (x5 : Int32).toNatClampNeg) = 0 → B_M_does_94 h d x1 x2 x3 x4 x5 3 x5 S1 K) ∧ (¬ (S1.1 33 (x5 : Int32).toNatClampNeg) = 0 → B_M_does_94 h d x1 x2 x3 x4 x5 1 x5 S1 K)))) ∧ (¬ (S1.1 28 (x5 : Int32).toNatClampNeg) = x2 → B_M_does_131 h d x1 x2 x3 x4 x5 S1 K)))))))))))) : B_M_does_30 h d x1 x2 x3 x4 x5 S K := by
  unfold B_M_does_30
  refine x_iload (x_at tdX12_does 18 rfl) rfl ?_
  refine x_aload_n (x_at tdX12_does 19 rfl) rfl rfl ?_
  refine gfM_0_58 (x_at tdX12_does 20 rfl) wf_X12_429 ?_
  refine x_ic_ge 137 (x_at tdX12_does 21 rfl) rfl (fun c => ?_) (fun c => ?_)
  · have H := H.1 c
    refine x_bipush (x_at tdX12_does 73 rfl) k_b_100 ?_
    refine x_iload_n (x_at tdX12_does 74 rfl) rfl rfl ?_
    refine x_imul (x_at tdX12_does 75 rfl) ?_
    refine x_iload (x_at tdX12_does 76 rfl) rfl ?_
    refine x_iadd (x_at tdX12_does 77 rfl) ?_
    exact x_ireturn (ty := .int) rfl rfl (x_at tdX12_does 78 rfl) ⟨_, rfl, H⟩
  · have H := H.2 c
    refine x_aload_n (x_at tdX12_does 22 rfl) rfl rfl ?_
    refine x_iload (x_at tdX12_does 23 rfl) rfl ?_
    refine x_cVi (as := [.int x5]) (rest := []) mi_X12_isOn vc_12 (lM_0 h) (x_at tdX12_does 24 rfl) wm_X12_469 rfl (Nat.le_of_ble_eq_true rfl) rfl H (fun r1 S1 H => ?_)
    refine x_if_eq 131 (x_at tdX12_does 25 rfl) rfl (fun c => ?_) (fun c => ?_)
    · have H := H.1 c
      refine x_weak (lv' := [(0, .ref (x_ad (gM h) 0)), (1, .int x1), (2, .int x2), (3, .int x3), (4, .int x4), (5, .int x5)]) ⟨rfl, rfl, rfl, rfl, rfl, rfl, trivial⟩ ?_
      exact H
    · have H := H.2 c
      refine x_aload_n (x_at tdX12_does 26 rfl) rfl rfl ?_
      refine gfM_0_41 (x_at tdX12_does 27 rfl) wf_X12_90 ?_
      refine x_iload (x_at tdX12_does 28 rfl) rfl ?_
      refine x_iald (lM_26 h) (x_at tdX12_does 29 rfl) H.1 ?_
      have H := H.2
      refine x_iload_n (x_at tdX12_does 30 rfl) rfl rfl ?_
      refine x_ic_ne 131 (x_at tdX12_does 31 rfl) rfl (fun c => ?_) (fun c => ?_)
      · have H := H.1 c
        refine x_weak (lv' := [(0, .ref (x_ad (gM h) 0)), (1, .int x1), (2, .int x2), (3, .int x3), (4, .int x4), (5, .int x5)]) ⟨rfl, rfl, rfl, rfl, rfl, rfl, trivial⟩ ?_
        exact H
      · have H := H.2 c
        refine x_aload_n (x_at tdX12_does 32 rfl) rfl rfl ?_
        refine gfM_0_43 (x_at tdX12_does 33 rfl) wf_X12_96 ?_
        refine x_iload (x_at tdX12_does 34 rfl) rfl ?_
        refine x_iald (lM_28 h) (x_at tdX12_does 35 rfl) H.1 ?_
        have H := H.2
        refine x_iload_n (x_at tdX12_does 36 rfl) rfl rfl ?_
        refine x_ic_eq 73 (x_at tdX12_does 37 rfl) rfl (fun c => ?_) (fun c => ?_)
        · have H := H.1 c
          refine x_aload_n (x_at tdX12_does 39 rfl) rfl rfl ?_
          refine gfM_0_67 (x_at tdX12_does 40 rfl) wf_X12_118 ?_
          refine x_iload (x_at tdX12_does 41 rfl) rfl ?_
          refine x_aload_n (x_at tdX12_does 42 rfl) rfl rfl ?_
          refine gfM_0_48 (x_at tdX12_does 43 rfl) wf_X12_112 ?_
          refine x_iload (x_at tdX12_does 44 rfl) rfl ?_
          refine x_zald (lM_33 h) (x_at tdX12_does 45 rfl) H.1 ?_
          have H := H.2
          refine x_if_eq 93 (x_at tdX12_does 46 rfl) rfl (fun c => ?_) (fun c => ?_)
          · have H := H.1 c
            refine x_iconst (x_at tdX12_does 49 rfl) k_c_3 ?_
            refine x_weak (lv' := [(0, .ref (x_ad (gM h) 0)), (1, .int x1), (2, .int x2), (3, .int x3), (4, .int x4), (5, .int x5)]) ⟨rfl, rfl, rfl, rfl, rfl, rfl, trivial⟩ ?_
            exact H
          · have H := H.2 c
            refine x_iconst (x_at tdX12_does 47 rfl) k_c_1 ?_
            refine x_goto 94 (x_at tdX12_does 48 rfl) rfl ?_
            refine x_weak (lv' := [(0, .ref (x_ad (gM h) 0)), (1, .int x1), (2, .int x2), (3, .int x3), (4, .int x4), (5, .int x5)]) ⟨rfl, rfl, rfl, rfl, rfl, rfl, trivial⟩ ?_
            exact H
        · have H := H.2 c
          refine x_goto 131 (x_at tdX12_does 38 rfl) rfl ?_
          refine x_weak (lv' := [(0, .ref (x_ad (gM h) 0)), (1, .int x1), (2, .int x2), (3, .int x3), (4, .int x4), (5, .int x5)]) ⟨rfl, rfl, rfl, rfl, rfl, rfl, trivial⟩ ?_
          exact H
theorem b_M_does_94 {h : xH} {d : Nat}  {x1 : Int32} {x2 : Int32} {x3 : Int32} {x4 : Int32} {x5 : Int32} {s0 : Int32} {s1 : Int32} {S : xSt} {K : Int32 → xSt → Prop}  (H : (vp_in s1 24 ∧ (vp_in x5 10 ∧ M_M_truth h (d + 1) (S.1 33 (x5 : Int32).toNatClampNeg) (x_putI S 34 (s1 : Int32).toNatClampNeg s0) (fun (r1 : Int32) (S1 : xSt) => (vp_in x5 10 ∧ ((¬ (S1.1 33 (x5 : Int32).toNatClampNeg) = 0 → B_M_does_125 h d x1 x2 (x3 + r1) x5 0 x4 S1 K) ∧ ((S1.1 33 (x5 : Int32).toNatClampNeg) = 0 → B_M_does_125 h d x1 x2 (x3 + r1) x5 1 x4 S1 K))))))) : B_M_does_94 h d x1 x2 x3 x4 x5 s0 s1 S K := by
  unfold B_M_does_94
  refine x_iast (lM_34 h) (x_at tdX12_does 50 rfl) H.1 ?_
  have H := H.2
  refine x_iload_n (x_at tdX12_does 51 rfl) rfl rfl ?_
  refine x_aload_n (x_at tdX12_does 52 rfl) rfl rfl ?_
  refine gfM_0_48 (x_at tdX12_does 53 rfl) wf_X12_112 ?_
  refine x_iload (x_at tdX12_does 54 rfl) rfl ?_
  refine x_zald (lM_33 h) (x_at tdX12_does 55 rfl) H.1 ?_
  have H := H.2
  refine x_top (v := (S.1 33 (x5 : Int32).toNatClampNeg)) rfl ?_
  refine x_cSi (as := [.int (S.1 33 (x5 : Int32).toNatClampNeg)]) (rest := [.int x3]) mi_X12_truth (x_at tdX12_does 56 rfl) wm_X12_344 rfl (Nat.le_of_ble_eq_true rfl) rfl H (fun r1 S1 H => ?_)
  refine x_iadd (x_at tdX12_does 57 rfl) ?_
  refine x_istore_n (x_at tdX12_does 58 rfl) rfl (by decide) ?_
  refine x_iload (x_at tdX12_does 59 rfl) rfl ?_
  refine x_aload_n (x_at tdX12_does 60 rfl) rfl rfl ?_
  refine gfM_0_48 (x_at tdX12_does 61 rfl) wf_X12_112 ?_
  refine x_iload (x_at tdX12_does 62 rfl) rfl ?_
  refine x_zald (lM_33 h) (x_at tdX12_does 63 rfl) H.1 ?_
  have H := H.2
  refine x_if_ne 124 (x_at tdX12_does 64 rfl) rfl (fun c => ?_) (fun c => ?_)
  · have H := H.1 c
    refine x_iconst (x_at tdX12_does 67 rfl) k_c_0 ?_
    refine x_weak (lv' := [(0, .ref (x_ad (gM h) 0)), (1, .int x1), (2, .int x2), (3, .int (x3 + r1)), (5, .int x5)]) ⟨rfl, rfl, rfl, rfl, rfl, trivial⟩ ?_
    exact H
  · have H := H.2 c
    refine x_iconst (x_at tdX12_does 65 rfl) k_c_1 ?_
    refine x_goto 125 (x_at tdX12_does 66 rfl) rfl ?_
    refine x_weak (lv' := [(0, .ref (x_ad (gM h) 0)), (1, .int x1), (2, .int x2), (3, .int (x3 + r1)), (5, .int x5)]) ⟨rfl, rfl, rfl, rfl, rfl, trivial⟩ ?_
    exact H
theorem b_M_does_125 {h : xH} {d : Nat}  {x1 : Int32} {x2 : Int32} {x3 : Int32} {x5 : Int32} {s0 : Int32} {s1 : Int32} {S : xSt} {K : Int32 → xSt → Prop}  (H : M_M_truth h (d + 1) s0 S (fun (r1 : Int32) (S1 : xSt) => B_M_does_131 h d x1 x2 x3 (s1 + r1) x5 S1 K)) : B_M_does_125 h d x1 x2 x3 x5 s0 s1 S K := by
  unfold B_M_does_125
  refine x_cSi (as := [.int s0]) (rest := [.int s1]) mi_X12_truth (x_at tdX12_does 68 rfl) wm_X12_344 rfl (Nat.le_of_ble_eq_true rfl) rfl H (fun r1 S1 H => ?_)
  refine x_iadd (x_at tdX12_does 69 rfl) ?_
  refine x_istore (x_at tdX12_does 70 rfl) (by decide) ?_
  refine x_weak (lv' := [(0, .ref (x_ad (gM h) 0)), (1, .int x1), (2, .int x2), (3, .int x3), (4, .int (s1 + r1)), (5, .int x5)]) ⟨rfl, rfl, rfl, rfl, rfl, rfl, trivial⟩ ?_
  exact H
theorem b_M_does_131 {h : xH} {d : Nat}  {x1 : Int32} {x2 : Int32} {x3 : Int32} {x4 : Int32} {x5 : Int32} {S : xSt} {K : Int32 → xSt → Prop}  (H : B_M_does_30 h d x1 x2 x3 x4 (x5 + 1) S K) : B_M_does_131 h d x1 x2 x3 x4 x5 S K := by
  unfold B_M_does_131
  refine x_iinc (x_at tdX12_does 71 rfl) rfl (k_inc_1 _) (by decide) ?_
  refine x_goto 30 (x_at tdX12_does 72 rfl) rfl ?_
  refine x_weak (lv' := [(0, .ref (x_ad (gM h) 0)), (1, .int x1), (2, .int x2), (3, .int x3), (4, .int x4), (5, .int (x5 + 1))]) ⟨rfl, rfl, rfl, rfl, rfl, rfl, trivial⟩ ?_
  exact H
theorem e_M_undoes {h : xH} {d : Nat} {x1 : Int32} {S : xSt} {K : Int32 → xSt → Prop}  (H : M_M_isButton h d x1 S (fun (r1 : Int32) (S1 : xSt) => ((r1 = 0 → K 0 S1) ∧ (¬ r1 = 0 → M_M_isOn h (d + 1) x1 S1 (fun (r2 : Int32) (S2 : xSt) => ((r2 = 0 → K 0 S2) ∧ (¬ r2 = 0 → (vp_in x1 10 ∧ (((S2.1 31 (x1 : Int32).toNatClampNeg) < 0 → B_M_undoes_40 h d x1 S2 K) ∧ (¬ (S2.1 31 (x1 : Int32).toNatClampNeg) < 0 → (vp_in x1 10 ∧ M_M_isOn h (d + 1) (S2.1 31 (x1 : Int32).toNatClampNeg) S2 (fun (r3 : Int32) (S3 : xSt) => ((r3 = 0 → B_M_undoes_40 h d x1 S3 K) ∧ (¬ r3 = 0 → K 0 S3)))))))))))))) : M_M_undoes h d x1 S K := by
  refine x_enter pn_X12 (Nat.le_of_ble_eq_true rfl) ?_
  show X (gM h) _ _ 0 [(0, .ref (x_ad (gM h) 0)), (1, .int x1)] [] S _
  refine x_aload_n (x_at tdX12_undoes 0 rfl) rfl rfl ?_
  refine x_iload_n (x_at tdX12_undoes 1 rfl) rfl rfl ?_
  refine x_cVi (as := [.int x1]) (rest := []) mi_X12_isButton vc_12 (lM_0 h) (x_at tdX12_undoes 2 rfl) wm_X12_457 rfl (Nat.le_of_ble_eq_true rfl) rfl H (fun r1 S1 H => ?_)
  refine x_if_eq 38 (x_at tdX12_undoes 3 rfl) rfl (fun c => ?_) (fun c => ?_)
  · have H := H.1 c
    refine x_iconst (x_at tdX12_undoes 20 rfl) k_c_0 ?_
    exact x_ireturn (ty := .boolean) rfl zb0.1 (x_at tdX12_undoes 21 rfl) ⟨_, rfl, H⟩
  · have H := H.2 c
    refine x_aload_n (x_at tdX12_undoes 4 rfl) rfl rfl ?_
    refine x_iload_n (x_at tdX12_undoes 5 rfl) rfl rfl ?_
    refine x_cVi (as := [.int x1]) (rest := []) mi_X12_isOn vc_12 (lM_0 h) (x_at tdX12_undoes 6 rfl) wm_X12_469 rfl (Nat.le_of_ble_eq_true rfl) rfl H (fun r2 S2 H => ?_)
    refine x_if_eq 38 (x_at tdX12_undoes 7 rfl) rfl (fun c => ?_) (fun c => ?_)
    · have H := H.1 c
      refine x_iconst (x_at tdX12_undoes 20 rfl) k_c_0 ?_
      exact x_ireturn (ty := .boolean) rfl zb0.1 (x_at tdX12_undoes 21 rfl) ⟨_, rfl, H⟩
    · have H := H.2 c
      refine x_aload_n (x_at tdX12_undoes 8 rfl) rfl rfl ?_
      refine gfM_0_46 (x_at tdX12_undoes 9 rfl) wf_X12_105 ?_
      refine x_iload_n (x_at tdX12_undoes 10 rfl) rfl rfl ?_
      refine x_iald (lM_31 h) (x_at tdX12_undoes 11 rfl) H.1 ?_
      have H := H.2
      refine x_if_lt 40 (x_at tdX12_undoes 12 rfl) rfl (fun c => ?_) (fun c => ?_)
      · have H := H.1 c
        refine x_weak (lv' := [(0, .ref (x_ad (gM h) 0)), (1, .int x1)]) ⟨rfl, rfl, trivial⟩ ?_
        exact H
      · have H := H.2 c
        refine x_aload_n (x_at tdX12_undoes 13 rfl) rfl rfl ?_
        refine x_aload_n (x_at tdX12_undoes 14 rfl) rfl rfl ?_
        refine gfM_0_46 (x_at tdX12_undoes 15 rfl) wf_X12_105 ?_
        refine x_iload_n (x_at tdX12_undoes 16 rfl) rfl rfl ?_
        refine x_iald (lM_31 h) (x_at tdX12_undoes 17 rfl) H.1 ?_
        have H := H.2
        refine x_cVi (as := [.int (S2.1 31 (x1 : Int32).toNatClampNeg)]) (rest := []) mi_X12_isOn vc_12 (lM_0 h) (x_at tdX12_undoes 18 rfl) wm_X12_469 rfl (Nat.le_of_ble_eq_true rfl) rfl H (fun r3 S3 H => ?_)
        refine x_if_eq 40 (x_at tdX12_undoes 19 rfl) rfl (fun c => ?_) (fun c => ?_)
        · have H := H.1 c
          refine x_weak (lv' := [(0, .ref (x_ad (gM h) 0)), (1, .int x1)]) ⟨rfl, rfl, trivial⟩ ?_
          exact H
        · have H := H.2 c
          refine x_iconst (x_at tdX12_undoes 20 rfl) k_c_0 ?_
          exact x_ireturn (ty := .boolean) rfl zb0.1 (x_at tdX12_undoes 21 rfl) ⟨_, rfl, H⟩
theorem b_M_undoes_40 {h : xH} {d : Nat}  {x1 : Int32} {S : xSt} {K : Int32 → xSt → Prop}  (H : M_M_act h (d + 1) S (fun (S1 : xSt) => (vp_in x1 24 ∧ K 1 (x_putI S1 34 (x1 : Int32).toNatClampNeg 2)))) : B_M_undoes_40 h d x1 S K := by
  unfold B_M_undoes_40
  refine x_aload_n (x_at tdX12_undoes 22 rfl) rfl rfl ?_
  refine x_cVv (as := []) (rest := []) mi_X12_act vc_12 (lM_0 h) (x_at tdX12_undoes 23 rfl) wm_X12_472 rfl (Nat.le_of_ble_eq_true rfl) rfl H (fun S1 H => ?_)
  refine x_aload_n (x_at tdX12_undoes 24 rfl) rfl rfl ?_
  refine gfM_0_67 (x_at tdX12_undoes 25 rfl) wf_X12_118 ?_
  refine x_iload_n (x_at tdX12_undoes 26 rfl) rfl rfl ?_
  refine x_iconst (x_at tdX12_undoes 27 rfl) k_c_2 ?_
  refine x_iast (lM_34 h) (x_at tdX12_undoes 28 rfl) H.1 ?_
  have H := H.2
  refine x_iconst (x_at tdX12_undoes 29 rfl) k_c_1 ?_
  exact x_ireturn (ty := .boolean) rfl zb1.1 (x_at tdX12_undoes 30 rfl) ⟨_, rfl, H⟩
theorem e_M_cut {h : xH} {d : Nat} {x1 : Int32} {S : xSt} {K : Int32 → xSt → Prop}  (H : M_M_isButton h d x1 S (fun (r1 : Int32) (S1 : xSt) => ((r1 = 0 → K (-1) S1) ∧ (¬ r1 = 0 → M_M_isOn h (d + 1) x1 S1 (fun (r2 : Int32) (S2 : xSt) => ((r2 = 0 → K (-1) S2) ∧ (¬ r2 = 0 → ((¬ (S2.1 34 22) = 3 → M_M_act h (d + 1) S2 (fun (S3 : xSt) => (vp_in x1 24 ∧ K (((x_putI S3 34 (x1 : Int32).toNatClampNeg 2).1 34 22) + (1 : Int32)) (x_putI (x_putI S3 34 (x1 : Int32).toNatClampNeg 2) 34 22 (((x_putI S3 34 (x1 : Int32).toNatClampNeg 2).1 34 22) + (1 : Int32)))))) ∧ ((S2.1 34 22) = 3 → K (-1) S2))))))))) : M_M_cut h d x1 S K := by
  refine x_enter pn_X12 (Nat.le_of_ble_eq_true rfl) ?_
  show X (gM h) _ _ 0 [(0, .ref (x_ad (gM h) 0)), (1, .int x1)] [] S _
  refine x_aload_n (x_at tdX12_cut 0 rfl) rfl rfl ?_
  refine x_iload_n (x_at tdX12_cut 1 rfl) rfl rfl ?_
  refine x_cVi (as := [.int x1]) (rest := []) mi_X12_isButton vc_12 (lM_0 h) (x_at tdX12_cut 2 rfl) wm_X12_457 rfl (Nat.le_of_ble_eq_true rfl) rfl H (fun r1 S1 H => ?_)
  refine x_if_eq 27 (x_at tdX12_cut 3 rfl) rfl (fun c => ?_) (fun c => ?_)
  · have H := H.1 c
    refine x_iconst (x_at tdX12_cut 14 rfl) k_c_m1 ?_
    exact x_ireturn (ty := .int) rfl rfl (x_at tdX12_cut 15 rfl) ⟨_, rfl, H⟩
  · have H := H.2 c
    refine x_aload_n (x_at tdX12_cut 4 rfl) rfl rfl ?_
    refine x_iload_n (x_at tdX12_cut 5 rfl) rfl rfl ?_
    refine x_cVi (as := [.int x1]) (rest := []) mi_X12_isOn vc_12 (lM_0 h) (x_at tdX12_cut 6 rfl) wm_X12_469 rfl (Nat.le_of_ble_eq_true rfl) rfl H (fun r2 S2 H => ?_)
    refine x_if_eq 27 (x_at tdX12_cut 7 rfl) rfl (fun c => ?_) (fun c => ?_)
    · have H := H.1 c
      refine x_iconst (x_at tdX12_cut 14 rfl) k_c_m1 ?_
      exact x_ireturn (ty := .int) rfl rfl (x_at tdX12_cut 15 rfl) ⟨_, rfl, H⟩
    · have H := H.2 c
      refine x_aload_n (x_at tdX12_cut 8 rfl) rfl rfl ?_
      refine gfM_0_67 (x_at tdX12_cut 9 rfl) wf_X12_118 ?_
      refine x_bipush (x_at tdX12_cut 10 rfl) k_b_22 ?_
      refine x_iald (lM_34 h) (x_at tdX12_cut 11 rfl) vi_22_24 ?_
      refine x_top (v := (S2.1 34 22)) rfl ?_
      refine x_iconst (x_at tdX12_cut 12 rfl) k_c_3 ?_
      refine x_ic_ne 29 (x_at tdX12_cut 13 rfl) rfl (fun c => ?_) (fun c => ?_)
      · have H := H.1 c
        refine x_aload_n (x_at tdX12_cut 16 rfl) rfl rfl ?_
        refine x_cVv (as := []) (rest := []) mi_X12_act vc_12 (lM_0 h) (x_at tdX12_cut 17 rfl) wm_X12_472 rfl (Nat.le_of_ble_eq_true rfl) rfl H (fun S3 H => ?_)
        refine x_aload_n (x_at tdX12_cut 18 rfl) rfl rfl ?_
        refine gfM_0_67 (x_at tdX12_cut 19 rfl) wf_X12_118 ?_
        refine x_iload_n (x_at tdX12_cut 20 rfl) rfl rfl ?_
        refine x_iconst (x_at tdX12_cut 21 rfl) k_c_2 ?_
        refine x_iast (lM_34 h) (x_at tdX12_cut 22 rfl) H.1 ?_
        have H := H.2
        refine x_aload_n (x_at tdX12_cut 23 rfl) rfl rfl ?_
        refine gfM_0_67 (x_at tdX12_cut 24 rfl) wf_X12_118 ?_
        refine x_bipush (x_at tdX12_cut 25 rfl) k_b_22 ?_
        refine x_dup2 (x_at tdX12_cut 26 rfl) rfl rfl ?_
        refine x_iald (lM_34 h) (x_at tdX12_cut 27 rfl) vi_22_24 ?_
        refine x_top (v := ((x_putI S3 34 (x1 : Int32).toNatClampNeg 2).1 34 22)) rfl ?_
        refine x_iconst (x_at tdX12_cut 28 rfl) k_c_1 ?_
        refine x_iadd (x_at tdX12_cut 29 rfl) ?_
        refine x_iast (lM_34 h) (x_at tdX12_cut 30 rfl) vi_22_24 ?_
        refine x_aload_n (x_at tdX12_cut 31 rfl) rfl rfl ?_
        refine gfM_0_67 (x_at tdX12_cut 32 rfl) wf_X12_118 ?_
        refine x_bipush (x_at tdX12_cut 33 rfl) k_b_22 ?_
        refine x_iald (lM_34 h) (x_at tdX12_cut 34 rfl) vi_22_24 ?_
        refine x_top (v := (((x_putI S3 34 (x1 : Int32).toNatClampNeg 2).1 34 22) + (1 : Int32))) rfl ?_
        exact x_ireturn (ty := .int) rfl rfl (x_at tdX12_cut 35 rfl) ⟨_, rfl, H⟩
      · have H := H.2 c
        refine x_iconst (x_at tdX12_cut 14 rfl) k_c_m1 ?_
        exact x_ireturn (ty := .int) rfl rfl (x_at tdX12_cut 15 rfl) ⟨_, rfl, H⟩
theorem e_M_sew {h : xH} {d : Nat} {x1 : Int32} {S : xSt} {K : Int32 → xSt → Prop}  (H : M_M_isButton h d x1 S (fun (r1 : Int32) (S1 : xSt) => ((r1 = 0 → K (-1) S1) ∧ (¬ r1 = 0 → M_M_isOn h (d + 1) x1 S1 (fun (r2 : Int32) (S2 : xSt) => ((¬ r2 = 0 → B_M_sew_28 h d x1 S2 K) ∧ (r2 = 0 → (vp_in x1 24 ∧ (((S2.1 34 (x1 : Int32).toNatClampNeg) = 4 → B_M_sew_28 h d x1 S2 K) ∧ (¬ (S2.1 34 (x1 : Int32).toNatClampNeg) = 4 → K (-1) S2)))))))))) : M_M_sew h d x1 S K := by
  refine x_enter pn_X12 (Nat.le_of_ble_eq_true rfl) ?_
  show X (gM h) _ _ 0 [(0, .ref (x_ad (gM h) 0)), (1, .int x1)] [] S _
  refine x_aload_n (x_at tdX12_sew 0 rfl) rfl rfl ?_
  refine x_iload_n (x_at tdX12_sew 1 rfl) rfl rfl ?_
  refine x_cVi (as := [.int x1]) (rest := []) mi_X12_isButton vc_12 (lM_0 h) (x_at tdX12_sew 2 rfl) wm_X12_457 rfl (Nat.le_of_ble_eq_true rfl) rfl H (fun r1 S1 H => ?_)
  refine x_if_eq 26 (x_at tdX12_sew 3 rfl) rfl (fun c => ?_) (fun c => ?_)
  · have H := H.1 c
    refine x_iconst (x_at tdX12_sew 14 rfl) k_c_m1 ?_
    exact x_ireturn (ty := .int) rfl rfl (x_at tdX12_sew 15 rfl) ⟨_, rfl, H⟩
  · have H := H.2 c
    refine x_aload_n (x_at tdX12_sew 4 rfl) rfl rfl ?_
    refine x_iload_n (x_at tdX12_sew 5 rfl) rfl rfl ?_
    refine x_cVi (as := [.int x1]) (rest := []) mi_X12_isOn vc_12 (lM_0 h) (x_at tdX12_sew 6 rfl) wm_X12_469 rfl (Nat.le_of_ble_eq_true rfl) rfl H (fun r2 S2 H => ?_)
    refine x_if_ne 28 (x_at tdX12_sew 7 rfl) rfl (fun c => ?_) (fun c => ?_)
    · have H := H.1 c
      refine x_weak (lv' := [(0, .ref (x_ad (gM h) 0)), (1, .int x1)]) ⟨rfl, rfl, trivial⟩ ?_
      exact H
    · have H := H.2 c
      refine x_aload_n (x_at tdX12_sew 8 rfl) rfl rfl ?_
      refine gfM_0_67 (x_at tdX12_sew 9 rfl) wf_X12_118 ?_
      refine x_iload_n (x_at tdX12_sew 10 rfl) rfl rfl ?_
      refine x_iald (lM_34 h) (x_at tdX12_sew 11 rfl) H.1 ?_
      have H := H.2
      refine x_iconst (x_at tdX12_sew 12 rfl) k_c_4 ?_
      refine x_ic_eq 28 (x_at tdX12_sew 13 rfl) rfl (fun c => ?_) (fun c => ?_)
      · have H := H.1 c
        refine x_weak (lv' := [(0, .ref (x_ad (gM h) 0)), (1, .int x1)]) ⟨rfl, rfl, trivial⟩ ?_
        exact H
      · have H := H.2 c
        refine x_iconst (x_at tdX12_sew 14 rfl) k_c_m1 ?_
        exact x_ireturn (ty := .int) rfl rfl (x_at tdX12_sew 15 rfl) ⟨_, rfl, H⟩
theorem b_M_sew_28 {h : xH} {d : Nat}  {x1 : Int32} {S : xSt} {K : Int32 → xSt → Prop}  (H : M_M_act h (d + 1) S (fun (S1 : xSt) => (vp_in ((10 : Int32) + x1) 24 ∧ (vp_in x1 24 ∧ (vp_in x1 10 ∧ (vp_in ((10 : Int32) + x1) 24 ∧ K (S1.1 34 (((10 : Int32) + x1) : Int32).toNatClampNeg) (x_putI (x_putI S1 34 (x1 : Int32).toNatClampNeg 0) 34 (((10 : Int32) + x1) : Int32).toNatClampNeg (S1.1 30 (x1 : Int32).toNatClampNeg)))))))) : B_M_sew_28 h d x1 S K := by
  unfold B_M_sew_28
  refine x_aload_n (x_at tdX12_sew 16 rfl) rfl rfl ?_
  refine x_cVv (as := []) (rest := []) mi_X12_act vc_12 (lM_0 h) (x_at tdX12_sew 17 rfl) wm_X12_472 rfl (Nat.le_of_ble_eq_true rfl) rfl H (fun S1 H => ?_)
  refine x_aload_n (x_at tdX12_sew 18 rfl) rfl rfl ?_
  refine gfM_0_67 (x_at tdX12_sew 19 rfl) wf_X12_118 ?_
  refine x_bipush (x_at tdX12_sew 20 rfl) k_b_10 ?_
  refine x_iload_n (x_at tdX12_sew 21 rfl) rfl rfl ?_
  refine x_iadd (x_at tdX12_sew 22 rfl) ?_
  refine x_iald (lM_34 h) (x_at tdX12_sew 23 rfl) H.1 ?_
  have H := H.2
  refine x_istore_n (x_at tdX12_sew 24 rfl) rfl (by decide) ?_
  refine x_aload_n (x_at tdX12_sew 25 rfl) rfl rfl ?_
  refine gfM_0_67 (x_at tdX12_sew 26 rfl) wf_X12_118 ?_
  refine x_iload_n (x_at tdX12_sew 27 rfl) rfl rfl ?_
  refine x_iconst (x_at tdX12_sew 28 rfl) k_c_0 ?_
  refine x_iast (lM_34 h) (x_at tdX12_sew 29 rfl) H.1 ?_
  have H := H.2
  refine x_aload_n (x_at tdX12_sew 30 rfl) rfl rfl ?_
  refine gfM_0_67 (x_at tdX12_sew 31 rfl) wf_X12_118 ?_
  refine x_bipush (x_at tdX12_sew 32 rfl) k_b_10 ?_
  refine x_iload_n (x_at tdX12_sew 33 rfl) rfl rfl ?_
  refine x_iadd (x_at tdX12_sew 34 rfl) ?_
  refine x_aload_n (x_at tdX12_sew 35 rfl) rfl rfl ?_
  refine gfM_0_45 (x_at tdX12_sew 36 rfl) wf_X12_102 ?_
  refine x_iload_n (x_at tdX12_sew 37 rfl) rfl rfl ?_
  refine x_iald (lM_30 h) (x_at tdX12_sew 38 rfl) H.1 ?_
  have H := H.2
  refine x_top (v := (S1.1 30 (x1 : Int32).toNatClampNeg)) rfl ?_
  refine x_iast (lM_34 h) (x_at tdX12_sew 39 rfl) H.1 ?_
  have H := H.2
  refine x_iload_n (x_at tdX12_sew 40 rfl) rfl rfl ?_
  exact x_ireturn (ty := .int) rfl rfl (x_at tdX12_sew 41 rfl) ⟨_, rfl, H⟩
theorem e_M_done {h : xH} {d : Nat} {x0 : Int32} {x1 : Int32} {x2 : Int32} {S : xSt} {K : Int32 → xSt → Prop}  (H : (((x0.toInt < 37 ∨ 62 < x0.toInt) → ((¬ x1 = 0 → M_M_truth h d 1 S (fun (r1 : Int32) (S1 : xSt) => K r1 S1)) ∧ (x1 = 0 → ((x2 = 0 → M_M_truth h d 0 S (fun (r2 : Int32) (S2 : xSt) => K r2 S2)) ∧ (¬ x2 = 0 → M_M_truth h d 1 S (fun (r3 : Int32) (S3 : xSt) => K r3 S3)))))) ∧ (x0 = 37 → ((¬ x2 = 0 → (¬ x2 = 0 ∧ K (x1 - x1 / x2 * x2) S)) ∧ (x2 = 0 → K 0 S))) ∧ (x0 = 38 → ((x1 = 0 → M_M_truth h d 0 S (fun (r4 : Int32) (S4 : xSt) => K r4 S4)) ∧ (¬ x1 = 0 → ((x2 = 0 → M_M_truth h d 0 S (fun (r5 : Int32) (S5 : xSt) => K r5 S5)) ∧ (¬ x2 = 0 → M_M_truth h d 1 S (fun (r6 : Int32) (S6 : xSt) => K r6 S6)))))) ∧ (x0 = 39 → ((¬ x1 = 0 → M_M_truth h d 1 S (fun (r7 : Int32) (S7 : xSt) => K r7 S7)) ∧ (x1 = 0 → ((x2 = 0 → M_M_truth h d 0 S (fun (r8 : Int32) (S8 : xSt) => K r8 S8)) ∧ (¬ x2 = 0 → M_M_truth h d 1 S (fun (r9 : Int32) (S9 : xSt) => K r9 S9)))))) ∧ (x0 = 40 → ((¬ x1 = 0 → M_M_truth h d 1 S (fun (r10 : Int32) (S10 : xSt) => K r10 S10)) ∧ (x1 = 0 → ((x2 = 0 → M_M_truth h d 0 S (fun (r11 : Int32) (S11 : xSt) => K r11 S11)) ∧ (¬ x2 = 0 → M_M_truth h d 1 S (fun (r12 : Int32) (S12 : xSt) => K r12 S12)))))) ∧ (x0 = 41 → ((¬ x1 = 0 → M_M_truth h d 1 S (fun (r13 : Int32) (S13 : xSt) => K r13 S13)) ∧ (x1 = 0 → ((x2 = 0 → M_M_truth h d 0 S (fun (r14 : Int32) (S14 : xSt) => K r14 S14)) ∧ (¬ x2 = 0 → M_M_truth h d 1 S (fun (r15 : Int32) (S15 : xSt) => K r15 S15)))))) ∧ (x0 = 42 → K (x1 * x2) S) ∧ (x0 = 43 → K (x1 + x2) S) ∧ (x0 = 44 → ((¬ x1 = 0 → M_M_truth h d 1 S (fun (r16 : Int32) (S16 : xSt) => K r16 S16)) ∧ (x1 = 0 → ((x2 = 0 → M_M_truth h d 0 S (fun (r17 : Int32) (S17 : xSt) => K r17 S17)) ∧ (¬ x2 = 0 → M_M_truth h d 1 S (fun (r18 : Int32) (S18 : xSt) => K r18 S18)))))) ∧ (x0 = 45 → K (x1 - x2) S) ∧ (x0 = 46 → ((¬ x1 = 0 → M_M_truth h d 1 S (fun (r19 : Int32) (S19 : xSt) => K r19 S19)) ∧ (x1 = 0 → ((x2 = 0 → M_M_truth h d 0 S (fun (r20 : Int32) (S20 : xSt) => K r20 S20)) ∧ (¬ x2 = 0 → M_M_truth h d 1 S (fun (r21 : Int32) (S21 : xSt) => K r21 S21)))))) ∧ (x0 = 47 → ((¬ x2 = 0 → (¬ x2 = 0 ∧ K (x1 / x2) S)) ∧ (x2 = 0 → K 0 S))) ∧ (x0 = 48 → ((¬ x1 = 0 → M_M_truth h d 1 S (fun (r22 : Int32) (S22 : xSt) => K r22 S22)) ∧ (x1 = 0 → ((x2 = 0 → M_M_truth h d 0 S (fun (r23 : Int32) (S23 : xSt) => K r23 S23)) ∧ (¬ x2 = 0 → M_M_truth h d 1 S (fun (r24 : Int32) (S24 : xSt) => K r24 S24)))))) ∧ (x0 = 49 → ((¬ x1 = 0 → M_M_truth h d 1 S (fun (r25 : Int32) (S25 : xSt) => K r25 S25)) ∧ (x1 = 0 → ((x2 = 0 → M_M_truth h d 0 S (fun (r26 : Int32) (S26 : xSt) => K r26 S26)) ∧ (¬ x2 = 0 → M_M_truth h d 1 S (fun (r27 : Int32) (S27 : xSt) => K r27 S27)))))) ∧ (x0 = 50 → ((¬ x1 = 0 → M_M_truth h d 1 S (fun (r28 : Int32) (S28 : xSt) => K r28 S28)) ∧ (x1 = 0 → ((x2 = 0 → M_M_truth h d 0 S (fun (r29 : Int32) (S29 : xSt) => K r29 S29)) ∧ (¬ x2 = 0 → M_M_truth h d 1 S (fun (r30 : Int32) (S30 : xSt) => K r30 S30)))))) ∧ (x0 = 51 → ((¬ x1 = 0 → M_M_truth h d 1 S (fun (r31 : Int32) (S31 : xSt) => K r31 S31)) ∧ (x1 = 0 → ((x2 = 0 → M_M_truth h d 0 S (fun (r32 : Int32) (S32 : xSt) => K r32 S32)) ∧ (¬ x2 = 0 → M_M_truth h d 1 S (fun (r33 : Int32) (S33 : xSt) => K r33 S33)))))) ∧ (x0 = 52 → ((¬ x1 = 0 → M_M_truth h d 1 S (fun (r34 : Int32) (S34 : xSt) => K r34 S34)) ∧ (x1 = 0 → ((x2 = 0 → M_M_truth h d 0 S (fun (r35 : Int32) (S35 : xSt) => K r35 S35)) ∧ (¬ x2 = 0 → M_M_truth h d 1 S (fun (r36 : Int32) (S36 : xSt) => K r36 S36)))))) ∧ (x0 = 53 → ((¬ x1 = 0 → M_M_truth h d 1 S (fun (r37 : Int32) (S37 : xSt) => K r37 S37)) ∧ (x1 = 0 → ((x2 = 0 → M_M_truth h d 0 S (fun (r38 : Int32) (S38 : xSt) => K r38 S38)) ∧ (¬ x2 = 0 → M_M_truth h d 1 S (fun (r39 : Int32) (S39 : xSt) => K r39 S39)))))) ∧ (x0 = 54 → ((¬ x1 = 0 → M_M_truth h d 1 S (fun (r40 : Int32) (S40 : xSt) => K r40 S40)) ∧ (x1 = 0 → ((x2 = 0 → M_M_truth h d 0 S (fun (r41 : Int32) (S41 : xSt) => K r41 S41)) ∧ (¬ x2 = 0 → M_M_truth h d 1 S (fun (r42 : Int32) (S42 : xSt) => K r42 S42)))))) ∧ (x0 = 55 → ((¬ x1 = 0 → M_M_truth h d 1 S (fun (r43 : Int32) (S43 : xSt) => K r43 S43)) ∧ (x1 = 0 → ((x2 = 0 → M_M_truth h d 0 S (fun (r44 : Int32) (S44 : xSt) => K r44 S44)) ∧ (¬ x2 = 0 → M_M_truth h d 1 S (fun (r45 : Int32) (S45 : xSt) => K r45 S45)))))) ∧ (x0 = 56 → ((¬ x1 = 0 → M_M_truth h d 1 S (fun (r46 : Int32) (S46 : xSt) => K r46 S46)) ∧ (x1 = 0 → ((x2 = 0 → M_M_truth h d 0 S (fun (r47 : Int32) (S47 : xSt) => K r47 S47)) ∧ (¬ x2 = 0 → M_M_truth h d 1 S (fun (r48 : Int32) (S48 : xSt) => K r48 S48)))))) ∧ (x0 = 57 → ((¬ x1 = 0 → M_M_truth h d 1 S (fun (r49 : Int32) (S49 : xSt) => K r49 S49)) ∧ (x1 = 0 → ((x2 = 0 → M_M_truth h d 0 S (fun (r50 : Int32) (S50 : xSt) => K r50 S50)) ∧ (¬ x2 = 0 → M_M_truth h d 1 S (fun (r51 : Int32) (S51 : xSt) => K r51 S51)))))) ∧ (x0 = 58 → ((¬ x1 = 0 → M_M_truth h d 1 S (fun (r52 : Int32) (S52 : xSt) => K r52 S52)) ∧ (x1 = 0 → ((x2 = 0 → M_M_truth h d 0 S (fun (r53 : Int32) (S53 : xSt) => K r53 S53)) ∧ (¬ x2 = 0 → M_M_truth h d 1 S (fun (r54 : Int32) (S54 : xSt) => K r54 S54)))))) ∧ (x0 = 59 → ((¬ x1 = 0 → M_M_truth h d 1 S (fun (r55 : Int32) (S55 : xSt) => K r55 S55)) ∧ (x1 = 0 → ((x2 = 0 → M_M_truth h d 0 S (fun (r56 : Int32) (S56 : xSt) => K r56 S56)) ∧ (¬ x2 = 0 → M_M_truth h d 1 S (fun (r57 : Int32) (S57 : xSt) => K r57 S57)))))) ∧ (x0 = 60 → ((x2 ≤ x1 → M_M_truth h d 0 S (fun (r58 : Int32) (S58 : xSt) => K r58 S58)) ∧ (¬ x2 ≤ x1 → M_M_truth h d 1 S (fun (r59 : Int32) (S59 : xSt) => K r59 S59)))) ∧ (x0 = 61 → ((¬ x1 = x2 → M_M_truth h d 0 S (fun (r60 : Int32) (S60 : xSt) => K r60 S60)) ∧ (x1 = x2 → M_M_truth h d 1 S (fun (r61 : Int32) (S61 : xSt) => K r61 S61)))) ∧ (x0 = 62 → ((x1 ≤ x2 → M_M_truth h d 0 S (fun (r62 : Int32) (S62 : xSt) => K r62 S62)) ∧ (¬ x1 ≤ x2 → M_M_truth h d 1 S (fun (r63 : Int32) (S63 : xSt) => K r63 S63)))))) : M_M_done h d x0 x1 x2 S K := by
  refine x_enter pn_X12 (Nat.le_of_ble_eq_true rfl) ?_
  show X (gM h) _ _ 0 [(0, .int x0), (1, .int x1), (2, .int x2)] [] S _
  refine x_iload_n (x_at tdX12_done 0 rfl) rfl rfl ?_
  by_cases hq : (x0 : Int32).toInt < 37 ∨ 62 < (x0 : Int32).toInt
  · refine x_tableOut 215 (x_at tdX12_done 1 rfl) hq rfl ?_
    have H := H.1 hq
    refine x_iload_n (x_at tdX12_done 63 rfl) rfl rfl ?_
    refine x_if_ne 223 (x_at tdX12_done 64 rfl) rfl (fun c => ?_) (fun c => ?_)
    · have H := H.1 c
      refine x_iconst (x_at tdX12_done 67 rfl) k_c_1 ?_
      refine x_goto 228 (x_at tdX12_done 68 rfl) rfl ?_
      refine x_cSi (as := [.int 1]) (rest := []) mi_X12_truth (x_at tdX12_done 70 rfl) wm_X12_344 rfl (Nat.le_of_ble_eq_true rfl) rfl H (fun r1 S1 H => ?_)
      exact x_ireturn (ty := .int) rfl rfl (x_at tdX12_done 71 rfl) ⟨_, rfl, H⟩
    · have H := H.2 c
      refine x_iload_n (x_at tdX12_done 65 rfl) rfl rfl ?_
      refine x_if_eq 227 (x_at tdX12_done 66 rfl) rfl (fun c => ?_) (fun c => ?_)
      · have H := H.1 c
        refine x_iconst (x_at tdX12_done 69 rfl) k_c_0 ?_
        refine x_cSi (as := [.int 0]) (rest := []) mi_X12_truth (x_at tdX12_done 70 rfl) wm_X12_344 rfl (Nat.le_of_ble_eq_true rfl) rfl H (fun r2 S2 H => ?_)
        exact x_ireturn (ty := .int) rfl rfl (x_at tdX12_done 71 rfl) ⟨_, rfl, H⟩
      · have H := H.2 c
        refine x_iconst (x_at tdX12_done 67 rfl) k_c_1 ?_
        refine x_goto 228 (x_at tdX12_done 68 rfl) rfl ?_
        refine x_cSi (as := [.int 1]) (rest := []) mi_X12_truth (x_at tdX12_done 70 rfl) wm_X12_344 rfl (Nat.le_of_ble_eq_true rfl) rfl H (fun r3 S3 H => ?_)
        exact x_ireturn (ty := .int) rfl rfl (x_at tdX12_done 71 rfl) ⟨_, rfl, H⟩
  · rcases sw_in_37_62 hq with hx | hx | hx | hx | hx | hx | hx | hx | hx | hx | hx | hx | hx | hx | hx | hx | hx | hx | hx | hx | hx | hx | hx | hx | hx | hx
    · refine x_tsw 144 (x_at tdX12_done 1 rfl) hx (by decide) (by decide) rfl rfl ?_
      have H := H.2.1 hx
      refine x_iload_n (x_at tdX12_done 22 rfl) rfl rfl ?_
      refine x_if_ne 152 (x_at tdX12_done 23 rfl) rfl (fun c => ?_) (fun c => ?_)
      · have H := H.1 c
        refine x_iload_n (x_at tdX12_done 26 rfl) rfl rfl ?_
        refine x_iload_n (x_at tdX12_done 27 rfl) rfl rfl ?_
        refine x_irem (x_at tdX12_done 28 rfl) H.1 ?_
        have H := H.2
        exact x_ireturn (ty := .int) rfl rfl (x_at tdX12_done 29 rfl) ⟨_, rfl, H⟩
      · have H := H.2 c
        refine x_iconst (x_at tdX12_done 24 rfl) k_c_0 ?_
        refine x_goto 155 (x_at tdX12_done 25 rfl) rfl ?_
        exact x_ireturn (ty := .int) rfl rfl (x_at tdX12_done 29 rfl) ⟨_, rfl, H⟩
    · refine x_tsw 198 (x_at tdX12_done 1 rfl) hx (by decide) (by decide) rfl rfl ?_
      have H := H.2.2.1 hx
      refine x_iload_n (x_at tdX12_done 54 rfl) rfl rfl ?_
      refine x_if_eq 210 (x_at tdX12_done 55 rfl) rfl (fun c => ?_) (fun c => ?_)
      · have H := H.1 c
        refine x_iconst (x_at tdX12_done 60 rfl) k_c_0 ?_
        refine x_cSi (as := [.int 0]) (rest := []) mi_X12_truth (x_at tdX12_done 61 rfl) wm_X12_344 rfl (Nat.le_of_ble_eq_true rfl) rfl H (fun r4 S4 H => ?_)
        exact x_ireturn (ty := .int) rfl rfl (x_at tdX12_done 62 rfl) ⟨_, rfl, H⟩
      · have H := H.2 c
        refine x_iload_n (x_at tdX12_done 56 rfl) rfl rfl ?_
        refine x_if_eq 210 (x_at tdX12_done 57 rfl) rfl (fun c => ?_) (fun c => ?_)
        · have H := H.1 c
          refine x_iconst (x_at tdX12_done 60 rfl) k_c_0 ?_
          refine x_cSi (as := [.int 0]) (rest := []) mi_X12_truth (x_at tdX12_done 61 rfl) wm_X12_344 rfl (Nat.le_of_ble_eq_true rfl) rfl H (fun r5 S5 H => ?_)
          exact x_ireturn (ty := .int) rfl rfl (x_at tdX12_done 62 rfl) ⟨_, rfl, H⟩
        · have H := H.2 c
          refine x_iconst (x_at tdX12_done 58 rfl) k_c_1 ?_
          refine x_goto 211 (x_at tdX12_done 59 rfl) rfl ?_
          refine x_cSi (as := [.int 1]) (rest := []) mi_X12_truth (x_at tdX12_done 61 rfl) wm_X12_344 rfl (Nat.le_of_ble_eq_true rfl) rfl H (fun r6 S6 H => ?_)
          exact x_ireturn (ty := .int) rfl rfl (x_at tdX12_done 62 rfl) ⟨_, rfl, H⟩
    · refine x_tsw 215 (x_at tdX12_done 1 rfl) hx (by decide) (by decide) rfl rfl ?_
      have H := H.2.2.2.1 hx
      refine x_iload_n (x_at tdX12_done 63 rfl) rfl rfl ?_
      refine x_if_ne 223 (x_at tdX12_done 64 rfl) rfl (fun c => ?_) (fun c => ?_)
      · have H := H.1 c
        refine x_iconst (x_at tdX12_done 67 rfl) k_c_1 ?_
        refine x_goto 228 (x_at tdX12_done 68 rfl) rfl ?_
        refine x_cSi (as := [.int 1]) (rest := []) mi_X12_truth (x_at tdX12_done 70 rfl) wm_X12_344 rfl (Nat.le_of_ble_eq_true rfl) rfl H (fun r7 S7 H => ?_)
        exact x_ireturn (ty := .int) rfl rfl (x_at tdX12_done 71 rfl) ⟨_, rfl, H⟩
      · have H := H.2 c
        refine x_iload_n (x_at tdX12_done 65 rfl) rfl rfl ?_
        refine x_if_eq 227 (x_at tdX12_done 66 rfl) rfl (fun c => ?_) (fun c => ?_)
        · have H := H.1 c
          refine x_iconst (x_at tdX12_done 69 rfl) k_c_0 ?_
          refine x_cSi (as := [.int 0]) (rest := []) mi_X12_truth (x_at tdX12_done 70 rfl) wm_X12_344 rfl (Nat.le_of_ble_eq_true rfl) rfl H (fun r8 S8 H => ?_)
          exact x_ireturn (ty := .int) rfl rfl (x_at tdX12_done 71 rfl) ⟨_, rfl, H⟩
        · have H := H.2 c
          refine x_iconst (x_at tdX12_done 67 rfl) k_c_1 ?_
          refine x_goto 228 (x_at tdX12_done 68 rfl) rfl ?_
          refine x_cSi (as := [.int 1]) (rest := []) mi_X12_truth (x_at tdX12_done 70 rfl) wm_X12_344 rfl (Nat.le_of_ble_eq_true rfl) rfl H (fun r9 S9 H => ?_)
          exact x_ireturn (ty := .int) rfl rfl (x_at tdX12_done 71 rfl) ⟨_, rfl, H⟩
    · refine x_tsw 215 (x_at tdX12_done 1 rfl) hx (by decide) (by decide) rfl rfl ?_
      have H := H.2.2.2.2.1 hx
      refine x_iload_n (x_at tdX12_done 63 rfl) rfl rfl ?_
      refine x_if_ne 223 (x_at tdX12_done 64 rfl) rfl (fun c => ?_) (fun c => ?_)
      · have H := H.1 c
        refine x_iconst (x_at tdX12_done 67 rfl) k_c_1 ?_
        refine x_goto 228 (x_at tdX12_done 68 rfl) rfl ?_
        refine x_cSi (as := [.int 1]) (rest := []) mi_X12_truth (x_at tdX12_done 70 rfl) wm_X12_344 rfl (Nat.le_of_ble_eq_true rfl) rfl H (fun r10 S10 H => ?_)
        exact x_ireturn (ty := .int) rfl rfl (x_at tdX12_done 71 rfl) ⟨_, rfl, H⟩
      · have H := H.2 c
        refine x_iload_n (x_at tdX12_done 65 rfl) rfl rfl ?_
        refine x_if_eq 227 (x_at tdX12_done 66 rfl) rfl (fun c => ?_) (fun c => ?_)
        · have H := H.1 c
          refine x_iconst (x_at tdX12_done 69 rfl) k_c_0 ?_
          refine x_cSi (as := [.int 0]) (rest := []) mi_X12_truth (x_at tdX12_done 70 rfl) wm_X12_344 rfl (Nat.le_of_ble_eq_true rfl) rfl H (fun r11 S11 H => ?_)
          exact x_ireturn (ty := .int) rfl rfl (x_at tdX12_done 71 rfl) ⟨_, rfl, H⟩
        · have H := H.2 c
          refine x_iconst (x_at tdX12_done 67 rfl) k_c_1 ?_
          refine x_goto 228 (x_at tdX12_done 68 rfl) rfl ?_
          refine x_cSi (as := [.int 1]) (rest := []) mi_X12_truth (x_at tdX12_done 70 rfl) wm_X12_344 rfl (Nat.le_of_ble_eq_true rfl) rfl H (fun r12 S12 H => ?_)
          exact x_ireturn (ty := .int) rfl rfl (x_at tdX12_done 71 rfl) ⟨_, rfl, H⟩
    · refine x_tsw 215 (x_at tdX12_done 1 rfl) hx (by decide) (by decide) rfl rfl ?_
      have H := H.2.2.2.2.2.1 hx
      refine x_iload_n (x_at tdX12_done 63 rfl) rfl rfl ?_
      refine x_if_ne 223 (x_at tdX12_done 64 rfl) rfl (fun c => ?_) (fun c => ?_)
      · have H := H.1 c
        refine x_iconst (x_at tdX12_done 67 rfl) k_c_1 ?_
        refine x_goto 228 (x_at tdX12_done 68 rfl) rfl ?_
        refine x_cSi (as := [.int 1]) (rest := []) mi_X12_truth (x_at tdX12_done 70 rfl) wm_X12_344 rfl (Nat.le_of_ble_eq_true rfl) rfl H (fun r13 S13 H => ?_)
        exact x_ireturn (ty := .int) rfl rfl (x_at tdX12_done 71 rfl) ⟨_, rfl, H⟩
      · have H := H.2 c
        refine x_iload_n (x_at tdX12_done 65 rfl) rfl rfl ?_
        refine x_if_eq 227 (x_at tdX12_done 66 rfl) rfl (fun c => ?_) (fun c => ?_)
        · have H := H.1 c
          refine x_iconst (x_at tdX12_done 69 rfl) k_c_0 ?_
          refine x_cSi (as := [.int 0]) (rest := []) mi_X12_truth (x_at tdX12_done 70 rfl) wm_X12_344 rfl (Nat.le_of_ble_eq_true rfl) rfl H (fun r14 S14 H => ?_)
          exact x_ireturn (ty := .int) rfl rfl (x_at tdX12_done 71 rfl) ⟨_, rfl, H⟩
        · have H := H.2 c
          refine x_iconst (x_at tdX12_done 67 rfl) k_c_1 ?_
          refine x_goto 228 (x_at tdX12_done 68 rfl) rfl ?_
          refine x_cSi (as := [.int 1]) (rest := []) mi_X12_truth (x_at tdX12_done 70 rfl) wm_X12_344 rfl (Nat.le_of_ble_eq_true rfl) rfl H (fun r15 S15 H => ?_)
          exact x_ireturn (ty := .int) rfl rfl (x_at tdX12_done 71 rfl) ⟨_, rfl, H⟩
    · refine x_tsw 128 (x_at tdX12_done 1 rfl) hx (by decide) (by decide) rfl rfl ?_
      have H := H.2.2.2.2.2.2.1 hx
      refine x_iload_n (x_at tdX12_done 10 rfl) rfl rfl ?_
      refine x_iload_n (x_at tdX12_done 11 rfl) rfl rfl ?_
      refine x_imul (x_at tdX12_done 12 rfl) ?_
      exact x_ireturn (ty := .int) rfl rfl (x_at tdX12_done 13 rfl) ⟨_, rfl, H⟩
    · refine x_tsw 120 (x_at tdX12_done 1 rfl) hx (by decide) (by decide) rfl rfl ?_
      have H := H.2.2.2.2.2.2.2.1 hx
      refine x_iload_n (x_at tdX12_done 2 rfl) rfl rfl ?_
      refine x_iload_n (x_at tdX12_done 3 rfl) rfl rfl ?_
      refine x_iadd (x_at tdX12_done 4 rfl) ?_
      exact x_ireturn (ty := .int) rfl rfl (x_at tdX12_done 5 rfl) ⟨_, rfl, H⟩
    · refine x_tsw 215 (x_at tdX12_done 1 rfl) hx (by decide) (by decide) rfl rfl ?_
      have H := H.2.2.2.2.2.2.2.2.1 hx
      refine x_iload_n (x_at tdX12_done 63 rfl) rfl rfl ?_
      refine x_if_ne 223 (x_at tdX12_done 64 rfl) rfl (fun c => ?_) (fun c => ?_)
      · have H := H.1 c
        refine x_iconst (x_at tdX12_done 67 rfl) k_c_1 ?_
        refine x_goto 228 (x_at tdX12_done 68 rfl) rfl ?_
        refine x_cSi (as := [.int 1]) (rest := []) mi_X12_truth (x_at tdX12_done 70 rfl) wm_X12_344 rfl (Nat.le_of_ble_eq_true rfl) rfl H (fun r16 S16 H => ?_)
        exact x_ireturn (ty := .int) rfl rfl (x_at tdX12_done 71 rfl) ⟨_, rfl, H⟩
      · have H := H.2 c
        refine x_iload_n (x_at tdX12_done 65 rfl) rfl rfl ?_
        refine x_if_eq 227 (x_at tdX12_done 66 rfl) rfl (fun c => ?_) (fun c => ?_)
        · have H := H.1 c
          refine x_iconst (x_at tdX12_done 69 rfl) k_c_0 ?_
          refine x_cSi (as := [.int 0]) (rest := []) mi_X12_truth (x_at tdX12_done 70 rfl) wm_X12_344 rfl (Nat.le_of_ble_eq_true rfl) rfl H (fun r17 S17 H => ?_)
          exact x_ireturn (ty := .int) rfl rfl (x_at tdX12_done 71 rfl) ⟨_, rfl, H⟩
        · have H := H.2 c
          refine x_iconst (x_at tdX12_done 67 rfl) k_c_1 ?_
          refine x_goto 228 (x_at tdX12_done 68 rfl) rfl ?_
          refine x_cSi (as := [.int 1]) (rest := []) mi_X12_truth (x_at tdX12_done 70 rfl) wm_X12_344 rfl (Nat.le_of_ble_eq_true rfl) rfl H (fun r18 S18 H => ?_)
          exact x_ireturn (ty := .int) rfl rfl (x_at tdX12_done 71 rfl) ⟨_, rfl, H⟩
    · refine x_tsw 124 (x_at tdX12_done 1 rfl) hx (by decide) (by decide) rfl rfl ?_
      have H := H.2.2.2.2.2.2.2.2.2.1 hx
      refine x_iload_n (x_at tdX12_done 6 rfl) rfl rfl ?_
      refine x_iload_n (x_at tdX12_done 7 rfl) rfl rfl ?_
      refine x_isub (x_at tdX12_done 8 rfl) ?_
      exact x_ireturn (ty := .int) rfl rfl (x_at tdX12_done 9 rfl) ⟨_, rfl, H⟩
    · refine x_tsw 215 (x_at tdX12_done 1 rfl) hx (by decide) (by decide) rfl rfl ?_
      have H := H.2.2.2.2.2.2.2.2.2.2.1 hx
      refine x_iload_n (x_at tdX12_done 63 rfl) rfl rfl ?_
      refine x_if_ne 223 (x_at tdX12_done 64 rfl) rfl (fun c => ?_) (fun c => ?_)
      · have H := H.1 c
        refine x_iconst (x_at tdX12_done 67 rfl) k_c_1 ?_
        refine x_goto 228 (x_at tdX12_done 68 rfl) rfl ?_
        refine x_cSi (as := [.int 1]) (rest := []) mi_X12_truth (x_at tdX12_done 70 rfl) wm_X12_344 rfl (Nat.le_of_ble_eq_true rfl) rfl H (fun r19 S19 H => ?_)
        exact x_ireturn (ty := .int) rfl rfl (x_at tdX12_done 71 rfl) ⟨_, rfl, H⟩
      · have H := H.2 c
        refine x_iload_n (x_at tdX12_done 65 rfl) rfl rfl ?_
        refine x_if_eq 227 (x_at tdX12_done 66 rfl) rfl (fun c => ?_) (fun c => ?_)
        · have H := H.1 c
          refine x_iconst (x_at tdX12_done 69 rfl) k_c_0 ?_
          refine x_cSi (as := [.int 0]) (rest := []) mi_X12_truth (x_at tdX12_done 70 rfl) wm_X12_344 rfl (Nat.le_of_ble_eq_true rfl) rfl H (fun r20 S20 H => ?_)
          exact x_ireturn (ty := .int) rfl rfl (x_at tdX12_done 71 rfl) ⟨_, rfl, H⟩
        · have H := H.2 c
          refine x_iconst (x_at tdX12_done 67 rfl) k_c_1 ?_
          refine x_goto 228 (x_at tdX12_done 68 rfl) rfl ?_
          refine x_cSi (as := [.int 1]) (rest := []) mi_X12_truth (x_at tdX12_done 70 rfl) wm_X12_344 rfl (Nat.le_of_ble_eq_true rfl) rfl H (fun r21 S21 H => ?_)
          exact x_ireturn (ty := .int) rfl rfl (x_at tdX12_done 71 rfl) ⟨_, rfl, H⟩
    · refine x_tsw 132 (x_at tdX12_done 1 rfl) hx (by decide) (by decide) rfl rfl ?_
      have H := H.2.2.2.2.2.2.2.2.2.2.2.1 hx
      refine x_iload_n (x_at tdX12_done 14 rfl) rfl rfl ?_
      refine x_if_ne 140 (x_at tdX12_done 15 rfl) rfl (fun c => ?_) (fun c => ?_)
      · have H := H.1 c
        refine x_iload_n (x_at tdX12_done 18 rfl) rfl rfl ?_
        refine x_iload_n (x_at tdX12_done 19 rfl) rfl rfl ?_
        refine x_idiv (x_at tdX12_done 20 rfl) H.1 ?_
        have H := H.2
        exact x_ireturn (ty := .int) rfl rfl (x_at tdX12_done 21 rfl) ⟨_, rfl, H⟩
      · have H := H.2 c
        refine x_iconst (x_at tdX12_done 16 rfl) k_c_0 ?_
        refine x_goto 143 (x_at tdX12_done 17 rfl) rfl ?_
        exact x_ireturn (ty := .int) rfl rfl (x_at tdX12_done 21 rfl) ⟨_, rfl, H⟩
    · refine x_tsw 215 (x_at tdX12_done 1 rfl) hx (by decide) (by decide) rfl rfl ?_
      have H := H.2.2.2.2.2.2.2.2.2.2.2.2.1 hx
      refine x_iload_n (x_at tdX12_done 63 rfl) rfl rfl ?_
      refine x_if_ne 223 (x_at tdX12_done 64 rfl) rfl (fun c => ?_) (fun c => ?_)
      · have H := H.1 c
        refine x_iconst (x_at tdX12_done 67 rfl) k_c_1 ?_
        refine x_goto 228 (x_at tdX12_done 68 rfl) rfl ?_
        refine x_cSi (as := [.int 1]) (rest := []) mi_X12_truth (x_at tdX12_done 70 rfl) wm_X12_344 rfl (Nat.le_of_ble_eq_true rfl) rfl H (fun r22 S22 H => ?_)
        exact x_ireturn (ty := .int) rfl rfl (x_at tdX12_done 71 rfl) ⟨_, rfl, H⟩
      · have H := H.2 c
        refine x_iload_n (x_at tdX12_done 65 rfl) rfl rfl ?_
        refine x_if_eq 227 (x_at tdX12_done 66 rfl) rfl (fun c => ?_) (fun c => ?_)
        · have H := H.1 c
          refine x_iconst (x_at tdX12_done 69 rfl) k_c_0 ?_
          refine x_cSi (as := [.int 0]) (rest := []) mi_X12_truth (x_at tdX12_done 70 rfl) wm_X12_344 rfl (Nat.le_of_ble_eq_true rfl) rfl H (fun r23 S23 H => ?_)
          exact x_ireturn (ty := .int) rfl rfl (x_at tdX12_done 71 rfl) ⟨_, rfl, H⟩
        · have H := H.2 c
          refine x_iconst (x_at tdX12_done 67 rfl) k_c_1 ?_
          refine x_goto 228 (x_at tdX12_done 68 rfl) rfl ?_
          refine x_cSi (as := [.int 1]) (rest := []) mi_X12_truth (x_at tdX12_done 70 rfl) wm_X12_344 rfl (Nat.le_of_ble_eq_true rfl) rfl H (fun r24 S24 H => ?_)
          exact x_ireturn (ty := .int) rfl rfl (x_at tdX12_done 71 rfl) ⟨_, rfl, H⟩
    · refine x_tsw 215 (x_at tdX12_done 1 rfl) hx (by decide) (by decide) rfl rfl ?_
      have H := H.2.2.2.2.2.2.2.2.2.2.2.2.2.1 hx
      refine x_iload_n (x_at tdX12_done 63 rfl) rfl rfl ?_
      refine x_if_ne 223 (x_at tdX12_done 64 rfl) rfl (fun c => ?_) (fun c => ?_)
      · have H := H.1 c
        refine x_iconst (x_at tdX12_done 67 rfl) k_c_1 ?_
        refine x_goto 228 (x_at tdX12_done 68 rfl) rfl ?_
        refine x_cSi (as := [.int 1]) (rest := []) mi_X12_truth (x_at tdX12_done 70 rfl) wm_X12_344 rfl (Nat.le_of_ble_eq_true rfl) rfl H (fun r25 S25 H => ?_)
        exact x_ireturn (ty := .int) rfl rfl (x_at tdX12_done 71 rfl) ⟨_, rfl, H⟩
      · have H := H.2 c
        refine x_iload_n (x_at tdX12_done 65 rfl) rfl rfl ?_
        refine x_if_eq 227 (x_at tdX12_done 66 rfl) rfl (fun c => ?_) (fun c => ?_)
        · have H := H.1 c
          refine x_iconst (x_at tdX12_done 69 rfl) k_c_0 ?_
          refine x_cSi (as := [.int 0]) (rest := []) mi_X12_truth (x_at tdX12_done 70 rfl) wm_X12_344 rfl (Nat.le_of_ble_eq_true rfl) rfl H (fun r26 S26 H => ?_)
          exact x_ireturn (ty := .int) rfl rfl (x_at tdX12_done 71 rfl) ⟨_, rfl, H⟩
        · have H := H.2 c
          refine x_iconst (x_at tdX12_done 67 rfl) k_c_1 ?_
          refine x_goto 228 (x_at tdX12_done 68 rfl) rfl ?_
          refine x_cSi (as := [.int 1]) (rest := []) mi_X12_truth (x_at tdX12_done 70 rfl) wm_X12_344 rfl (Nat.le_of_ble_eq_true rfl) rfl H (fun r27 S27 H => ?_)
          exact x_ireturn (ty := .int) rfl rfl (x_at tdX12_done 71 rfl) ⟨_, rfl, H⟩
    · refine x_tsw 215 (x_at tdX12_done 1 rfl) hx (by decide) (by decide) rfl rfl ?_
      have H := H.2.2.2.2.2.2.2.2.2.2.2.2.2.2.1 hx
      refine x_iload_n (x_at tdX12_done 63 rfl) rfl rfl ?_
      refine x_if_ne 223 (x_at tdX12_done 64 rfl) rfl (fun c => ?_) (fun c => ?_)
      · have H := H.1 c
        refine x_iconst (x_at tdX12_done 67 rfl) k_c_1 ?_
        refine x_goto 228 (x_at tdX12_done 68 rfl) rfl ?_
        refine x_cSi (as := [.int 1]) (rest := []) mi_X12_truth (x_at tdX12_done 70 rfl) wm_X12_344 rfl (Nat.le_of_ble_eq_true rfl) rfl H (fun r28 S28 H => ?_)
        exact x_ireturn (ty := .int) rfl rfl (x_at tdX12_done 71 rfl) ⟨_, rfl, H⟩
      · have H := H.2 c
        refine x_iload_n (x_at tdX12_done 65 rfl) rfl rfl ?_
        refine x_if_eq 227 (x_at tdX12_done 66 rfl) rfl (fun c => ?_) (fun c => ?_)
        · have H := H.1 c
          refine x_iconst (x_at tdX12_done 69 rfl) k_c_0 ?_
          refine x_cSi (as := [.int 0]) (rest := []) mi_X12_truth (x_at tdX12_done 70 rfl) wm_X12_344 rfl (Nat.le_of_ble_eq_true rfl) rfl H (fun r29 S29 H => ?_)
          exact x_ireturn (ty := .int) rfl rfl (x_at tdX12_done 71 rfl) ⟨_, rfl, H⟩
        · have H := H.2 c
          refine x_iconst (x_at tdX12_done 67 rfl) k_c_1 ?_
          refine x_goto 228 (x_at tdX12_done 68 rfl) rfl ?_
          refine x_cSi (as := [.int 1]) (rest := []) mi_X12_truth (x_at tdX12_done 70 rfl) wm_X12_344 rfl (Nat.le_of_ble_eq_true rfl) rfl H (fun r30 S30 H => ?_)
          exact x_ireturn (ty := .int) rfl rfl (x_at tdX12_done 71 rfl) ⟨_, rfl, H⟩
    · refine x_tsw 215 (x_at tdX12_done 1 rfl) hx (by decide) (by decide) rfl rfl ?_
      have H := H.2.2.2.2.2.2.2.2.2.2.2.2.2.2.2.1 hx
      refine x_iload_n (x_at tdX12_done 63 rfl) rfl rfl ?_
      refine x_if_ne 223 (x_at tdX12_done 64 rfl) rfl (fun c => ?_) (fun c => ?_)
      · have H := H.1 c
        refine x_iconst (x_at tdX12_done 67 rfl) k_c_1 ?_
        refine x_goto 228 (x_at tdX12_done 68 rfl) rfl ?_
        refine x_cSi (as := [.int 1]) (rest := []) mi_X12_truth (x_at tdX12_done 70 rfl) wm_X12_344 rfl (Nat.le_of_ble_eq_true rfl) rfl H (fun r31 S31 H => ?_)
        exact x_ireturn (ty := .int) rfl rfl (x_at tdX12_done 71 rfl) ⟨_, rfl, H⟩
      · have H := H.2 c
        refine x_iload_n (x_at tdX12_done 65 rfl) rfl rfl ?_
        refine x_if_eq 227 (x_at tdX12_done 66 rfl) rfl (fun c => ?_) (fun c => ?_)
        · have H := H.1 c
          refine x_iconst (x_at tdX12_done 69 rfl) k_c_0 ?_
          refine x_cSi (as := [.int 0]) (rest := []) mi_X12_truth (x_at tdX12_done 70 rfl) wm_X12_344 rfl (Nat.le_of_ble_eq_true rfl) rfl H (fun r32 S32 H => ?_)
          exact x_ireturn (ty := .int) rfl rfl (x_at tdX12_done 71 rfl) ⟨_, rfl, H⟩
        · have H := H.2 c
          refine x_iconst (x_at tdX12_done 67 rfl) k_c_1 ?_
          refine x_goto 228 (x_at tdX12_done 68 rfl) rfl ?_
          refine x_cSi (as := [.int 1]) (rest := []) mi_X12_truth (x_at tdX12_done 70 rfl) wm_X12_344 rfl (Nat.le_of_ble_eq_true rfl) rfl H (fun r33 S33 H => ?_)
          exact x_ireturn (ty := .int) rfl rfl (x_at tdX12_done 71 rfl) ⟨_, rfl, H⟩
    · refine x_tsw 215 (x_at tdX12_done 1 rfl) hx (by decide) (by decide) rfl rfl ?_
      have H := H.2.2.2.2.2.2.2.2.2.2.2.2.2.2.2.2.1 hx
      refine x_iload_n (x_at tdX12_done 63 rfl) rfl rfl ?_
      refine x_if_ne 223 (x_at tdX12_done 64 rfl) rfl (fun c => ?_) (fun c => ?_)
      · have H := H.1 c
        refine x_iconst (x_at tdX12_done 67 rfl) k_c_1 ?_
        refine x_goto 228 (x_at tdX12_done 68 rfl) rfl ?_
        refine x_cSi (as := [.int 1]) (rest := []) mi_X12_truth (x_at tdX12_done 70 rfl) wm_X12_344 rfl (Nat.le_of_ble_eq_true rfl) rfl H (fun r34 S34 H => ?_)
        exact x_ireturn (ty := .int) rfl rfl (x_at tdX12_done 71 rfl) ⟨_, rfl, H⟩
      · have H := H.2 c
        refine x_iload_n (x_at tdX12_done 65 rfl) rfl rfl ?_
        refine x_if_eq 227 (x_at tdX12_done 66 rfl) rfl (fun c => ?_) (fun c => ?_)
        · have H := H.1 c
          refine x_iconst (x_at tdX12_done 69 rfl) k_c_0 ?_
          refine x_cSi (as := [.int 0]) (rest := []) mi_X12_truth (x_at tdX12_done 70 rfl) wm_X12_344 rfl (Nat.le_of_ble_eq_true rfl) rfl H (fun r35 S35 H => ?_)
          exact x_ireturn (ty := .int) rfl rfl (x_at tdX12_done 71 rfl) ⟨_, rfl, H⟩
        · have H := H.2 c
          refine x_iconst (x_at tdX12_done 67 rfl) k_c_1 ?_
          refine x_goto 228 (x_at tdX12_done 68 rfl) rfl ?_
          refine x_cSi (as := [.int 1]) (rest := []) mi_X12_truth (x_at tdX12_done 70 rfl) wm_X12_344 rfl (Nat.le_of_ble_eq_true rfl) rfl H (fun r36 S36 H => ?_)
          exact x_ireturn (ty := .int) rfl rfl (x_at tdX12_done 71 rfl) ⟨_, rfl, H⟩
    · refine x_tsw 215 (x_at tdX12_done 1 rfl) hx (by decide) (by decide) rfl rfl ?_
      have H := H.2.2.2.2.2.2.2.2.2.2.2.2.2.2.2.2.2.1 hx
      refine x_iload_n (x_at tdX12_done 63 rfl) rfl rfl ?_
      refine x_if_ne 223 (x_at tdX12_done 64 rfl) rfl (fun c => ?_) (fun c => ?_)
      · have H := H.1 c
        refine x_iconst (x_at tdX12_done 67 rfl) k_c_1 ?_
        refine x_goto 228 (x_at tdX12_done 68 rfl) rfl ?_
        refine x_cSi (as := [.int 1]) (rest := []) mi_X12_truth (x_at tdX12_done 70 rfl) wm_X12_344 rfl (Nat.le_of_ble_eq_true rfl) rfl H (fun r37 S37 H => ?_)
        exact x_ireturn (ty := .int) rfl rfl (x_at tdX12_done 71 rfl) ⟨_, rfl, H⟩
      · have H := H.2 c
        refine x_iload_n (x_at tdX12_done 65 rfl) rfl rfl ?_
        refine x_if_eq 227 (x_at tdX12_done 66 rfl) rfl (fun c => ?_) (fun c => ?_)
        · have H := H.1 c
          refine x_iconst (x_at tdX12_done 69 rfl) k_c_0 ?_
          refine x_cSi (as := [.int 0]) (rest := []) mi_X12_truth (x_at tdX12_done 70 rfl) wm_X12_344 rfl (Nat.le_of_ble_eq_true rfl) rfl H (fun r38 S38 H => ?_)
          exact x_ireturn (ty := .int) rfl rfl (x_at tdX12_done 71 rfl) ⟨_, rfl, H⟩
        · have H := H.2 c
          refine x_iconst (x_at tdX12_done 67 rfl) k_c_1 ?_
          refine x_goto 228 (x_at tdX12_done 68 rfl) rfl ?_
          refine x_cSi (as := [.int 1]) (rest := []) mi_X12_truth (x_at tdX12_done 70 rfl) wm_X12_344 rfl (Nat.le_of_ble_eq_true rfl) rfl H (fun r39 S39 H => ?_)
          exact x_ireturn (ty := .int) rfl rfl (x_at tdX12_done 71 rfl) ⟨_, rfl, H⟩
    · refine x_tsw 215 (x_at tdX12_done 1 rfl) hx (by decide) (by decide) rfl rfl ?_
      have H := H.2.2.2.2.2.2.2.2.2.2.2.2.2.2.2.2.2.2.1 hx
      refine x_iload_n (x_at tdX12_done 63 rfl) rfl rfl ?_
      refine x_if_ne 223 (x_at tdX12_done 64 rfl) rfl (fun c => ?_) (fun c => ?_)
      · have H := H.1 c
        refine x_iconst (x_at tdX12_done 67 rfl) k_c_1 ?_
        refine x_goto 228 (x_at tdX12_done 68 rfl) rfl ?_
        refine x_cSi (as := [.int 1]) (rest := []) mi_X12_truth (x_at tdX12_done 70 rfl) wm_X12_344 rfl (Nat.le_of_ble_eq_true rfl) rfl H (fun r40 S40 H => ?_)
        exact x_ireturn (ty := .int) rfl rfl (x_at tdX12_done 71 rfl) ⟨_, rfl, H⟩
      · have H := H.2 c
        refine x_iload_n (x_at tdX12_done 65 rfl) rfl rfl ?_
        refine x_if_eq 227 (x_at tdX12_done 66 rfl) rfl (fun c => ?_) (fun c => ?_)
        · have H := H.1 c
          refine x_iconst (x_at tdX12_done 69 rfl) k_c_0 ?_
          refine x_cSi (as := [.int 0]) (rest := []) mi_X12_truth (x_at tdX12_done 70 rfl) wm_X12_344 rfl (Nat.le_of_ble_eq_true rfl) rfl H (fun r41 S41 H => ?_)
          exact x_ireturn (ty := .int) rfl rfl (x_at tdX12_done 71 rfl) ⟨_, rfl, H⟩
        · have H := H.2 c
          refine x_iconst (x_at tdX12_done 67 rfl) k_c_1 ?_
          refine x_goto 228 (x_at tdX12_done 68 rfl) rfl ?_
          refine x_cSi (as := [.int 1]) (rest := []) mi_X12_truth (x_at tdX12_done 70 rfl) wm_X12_344 rfl (Nat.le_of_ble_eq_true rfl) rfl H (fun r42 S42 H => ?_)
          exact x_ireturn (ty := .int) rfl rfl (x_at tdX12_done 71 rfl) ⟨_, rfl, H⟩
    · refine x_tsw 215 (x_at tdX12_done 1 rfl) hx (by decide) (by decide) rfl rfl ?_
      have H := H.2.2.2.2.2.2.2.2.2.2.2.2.2.2.2.2.2.2.2.1 hx
      refine x_iload_n (x_at tdX12_done 63 rfl) rfl rfl ?_
      refine x_if_ne 223 (x_at tdX12_done 64 rfl) rfl (fun c => ?_) (fun c => ?_)
      · have H := H.1 c
        refine x_iconst (x_at tdX12_done 67 rfl) k_c_1 ?_
        refine x_goto 228 (x_at tdX12_done 68 rfl) rfl ?_
        refine x_cSi (as := [.int 1]) (rest := []) mi_X12_truth (x_at tdX12_done 70 rfl) wm_X12_344 rfl (Nat.le_of_ble_eq_true rfl) rfl H (fun r43 S43 H => ?_)
        exact x_ireturn (ty := .int) rfl rfl (x_at tdX12_done 71 rfl) ⟨_, rfl, H⟩
      · have H := H.2 c
        refine x_iload_n (x_at tdX12_done 65 rfl) rfl rfl ?_
        refine x_if_eq 227 (x_at tdX12_done 66 rfl) rfl (fun c => ?_) (fun c => ?_)
        · have H := H.1 c
          refine x_iconst (x_at tdX12_done 69 rfl) k_c_0 ?_
          refine x_cSi (as := [.int 0]) (rest := []) mi_X12_truth (x_at tdX12_done 70 rfl) wm_X12_344 rfl (Nat.le_of_ble_eq_true rfl) rfl H (fun r44 S44 H => ?_)
          exact x_ireturn (ty := .int) rfl rfl (x_at tdX12_done 71 rfl) ⟨_, rfl, H⟩
        · have H := H.2 c
          refine x_iconst (x_at tdX12_done 67 rfl) k_c_1 ?_
          refine x_goto 228 (x_at tdX12_done 68 rfl) rfl ?_
          refine x_cSi (as := [.int 1]) (rest := []) mi_X12_truth (x_at tdX12_done 70 rfl) wm_X12_344 rfl (Nat.le_of_ble_eq_true rfl) rfl H (fun r45 S45 H => ?_)
          exact x_ireturn (ty := .int) rfl rfl (x_at tdX12_done 71 rfl) ⟨_, rfl, H⟩
    · refine x_tsw 215 (x_at tdX12_done 1 rfl) hx (by decide) (by decide) rfl rfl ?_
      have H := H.2.2.2.2.2.2.2.2.2.2.2.2.2.2.2.2.2.2.2.2.1 hx
      refine x_iload_n (x_at tdX12_done 63 rfl) rfl rfl ?_
      refine x_if_ne 223 (x_at tdX12_done 64 rfl) rfl (fun c => ?_) (fun c => ?_)
      · have H := H.1 c
        refine x_iconst (x_at tdX12_done 67 rfl) k_c_1 ?_
        refine x_goto 228 (x_at tdX12_done 68 rfl) rfl ?_
        refine x_cSi (as := [.int 1]) (rest := []) mi_X12_truth (x_at tdX12_done 70 rfl) wm_X12_344 rfl (Nat.le_of_ble_eq_true rfl) rfl H (fun r46 S46 H => ?_)
        exact x_ireturn (ty := .int) rfl rfl (x_at tdX12_done 71 rfl) ⟨_, rfl, H⟩
      · have H := H.2 c
        refine x_iload_n (x_at tdX12_done 65 rfl) rfl rfl ?_
        refine x_if_eq 227 (x_at tdX12_done 66 rfl) rfl (fun c => ?_) (fun c => ?_)
        · have H := H.1 c
          refine x_iconst (x_at tdX12_done 69 rfl) k_c_0 ?_
          refine x_cSi (as := [.int 0]) (rest := []) mi_X12_truth (x_at tdX12_done 70 rfl) wm_X12_344 rfl (Nat.le_of_ble_eq_true rfl) rfl H (fun r47 S47 H => ?_)
          exact x_ireturn (ty := .int) rfl rfl (x_at tdX12_done 71 rfl) ⟨_, rfl, H⟩
        · have H := H.2 c
          refine x_iconst (x_at tdX12_done 67 rfl) k_c_1 ?_
          refine x_goto 228 (x_at tdX12_done 68 rfl) rfl ?_
          refine x_cSi (as := [.int 1]) (rest := []) mi_X12_truth (x_at tdX12_done 70 rfl) wm_X12_344 rfl (Nat.le_of_ble_eq_true rfl) rfl H (fun r48 S48 H => ?_)
          exact x_ireturn (ty := .int) rfl rfl (x_at tdX12_done 71 rfl) ⟨_, rfl, H⟩
    · refine x_tsw 215 (x_at tdX12_done 1 rfl) hx (by decide) (by decide) rfl rfl ?_
      have H := H.2.2.2.2.2.2.2.2.2.2.2.2.2.2.2.2.2.2.2.2.2.1 hx
      refine x_iload_n (x_at tdX12_done 63 rfl) rfl rfl ?_
      refine x_if_ne 223 (x_at tdX12_done 64 rfl) rfl (fun c => ?_) (fun c => ?_)
      · have H := H.1 c
        refine x_iconst (x_at tdX12_done 67 rfl) k_c_1 ?_
        refine x_goto 228 (x_at tdX12_done 68 rfl) rfl ?_
        refine x_cSi (as := [.int 1]) (rest := []) mi_X12_truth (x_at tdX12_done 70 rfl) wm_X12_344 rfl (Nat.le_of_ble_eq_true rfl) rfl H (fun r49 S49 H => ?_)
        exact x_ireturn (ty := .int) rfl rfl (x_at tdX12_done 71 rfl) ⟨_, rfl, H⟩
      · have H := H.2 c
        refine x_iload_n (x_at tdX12_done 65 rfl) rfl rfl ?_
        refine x_if_eq 227 (x_at tdX12_done 66 rfl) rfl (fun c => ?_) (fun c => ?_)
        · have H := H.1 c
          refine x_iconst (x_at tdX12_done 69 rfl) k_c_0 ?_
          refine x_cSi (as := [.int 0]) (rest := []) mi_X12_truth (x_at tdX12_done 70 rfl) wm_X12_344 rfl (Nat.le_of_ble_eq_true rfl) rfl H (fun r50 S50 H => ?_)
          exact x_ireturn (ty := .int) rfl rfl (x_at tdX12_done 71 rfl) ⟨_, rfl, H⟩
        · have H := H.2 c
          refine x_iconst (x_at tdX12_done 67 rfl) k_c_1 ?_
          refine x_goto 228 (x_at tdX12_done 68 rfl) rfl ?_
          refine x_cSi (as := [.int 1]) (rest := []) mi_X12_truth (x_at tdX12_done 70 rfl) wm_X12_344 rfl (Nat.le_of_ble_eq_true rfl) rfl H (fun r51 S51 H => ?_)
          exact x_ireturn (ty := .int) rfl rfl (x_at tdX12_done 71 rfl) ⟨_, rfl, H⟩
    · refine x_tsw 215 (x_at tdX12_done 1 rfl) hx (by decide) (by decide) rfl rfl ?_
      have H := H.2.2.2.2.2.2.2.2.2.2.2.2.2.2.2.2.2.2.2.2.2.2.1 hx
      refine x_iload_n (x_at tdX12_done 63 rfl) rfl rfl ?_
      refine x_if_ne 223 (x_at tdX12_done 64 rfl) rfl (fun c => ?_) (fun c => ?_)
      · have H := H.1 c
        refine x_iconst (x_at tdX12_done 67 rfl) k_c_1 ?_
        refine x_goto 228 (x_at tdX12_done 68 rfl) rfl ?_
        refine x_cSi (as := [.int 1]) (rest := []) mi_X12_truth (x_at tdX12_done 70 rfl) wm_X12_344 rfl (Nat.le_of_ble_eq_true rfl) rfl H (fun r52 S52 H => ?_)
        exact x_ireturn (ty := .int) rfl rfl (x_at tdX12_done 71 rfl) ⟨_, rfl, H⟩
      · have H := H.2 c
        refine x_iload_n (x_at tdX12_done 65 rfl) rfl rfl ?_
        refine x_if_eq 227 (x_at tdX12_done 66 rfl) rfl (fun c => ?_) (fun c => ?_)
        · have H := H.1 c
          refine x_iconst (x_at tdX12_done 69 rfl) k_c_0 ?_
          refine x_cSi (as := [.int 0]) (rest := []) mi_X12_truth (x_at tdX12_done 70 rfl) wm_X12_344 rfl (Nat.le_of_ble_eq_true rfl) rfl H (fun r53 S53 H => ?_)
          exact x_ireturn (ty := .int) rfl rfl (x_at tdX12_done 71 rfl) ⟨_, rfl, H⟩
        · have H := H.2 c
          refine x_iconst (x_at tdX12_done 67 rfl) k_c_1 ?_
          refine x_goto 228 (x_at tdX12_done 68 rfl) rfl ?_
          refine x_cSi (as := [.int 1]) (rest := []) mi_X12_truth (x_at tdX12_done 70 rfl) wm_X12_344 rfl (Nat.le_of_ble_eq_true rfl) rfl H (fun r54 S54 H => ?_)
          exact x_ireturn (ty := .int) rfl rfl (x_at tdX12_done 71 rfl) ⟨_, rfl, H⟩
    · refine x_tsw 215 (x_at tdX12_done 1 rfl) hx (by decide) (by decide) rfl rfl ?_
      have H := H.2.2.2.2.2.2.2.2.2.2.2.2.2.2.2.2.2.2.2.2.2.2.2.1 hx
      refine x_iload_n (x_at tdX12_done 63 rfl) rfl rfl ?_
      refine x_if_ne 223 (x_at tdX12_done 64 rfl) rfl (fun c => ?_) (fun c => ?_)
      · have H := H.1 c
        refine x_iconst (x_at tdX12_done 67 rfl) k_c_1 ?_
        refine x_goto 228 (x_at tdX12_done 68 rfl) rfl ?_
        refine x_cSi (as := [.int 1]) (rest := []) mi_X12_truth (x_at tdX12_done 70 rfl) wm_X12_344 rfl (Nat.le_of_ble_eq_true rfl) rfl H (fun r55 S55 H => ?_)
        exact x_ireturn (ty := .int) rfl rfl (x_at tdX12_done 71 rfl) ⟨_, rfl, H⟩
      · have H := H.2 c
        refine x_iload_n (x_at tdX12_done 65 rfl) rfl rfl ?_
        refine x_if_eq 227 (x_at tdX12_done 66 rfl) rfl (fun c => ?_) (fun c => ?_)
        · have H := H.1 c
          refine x_iconst (x_at tdX12_done 69 rfl) k_c_0 ?_
          refine x_cSi (as := [.int 0]) (rest := []) mi_X12_truth (x_at tdX12_done 70 rfl) wm_X12_344 rfl (Nat.le_of_ble_eq_true rfl) rfl H (fun r56 S56 H => ?_)
          exact x_ireturn (ty := .int) rfl rfl (x_at tdX12_done 71 rfl) ⟨_, rfl, H⟩
        · have H := H.2 c
          refine x_iconst (x_at tdX12_done 67 rfl) k_c_1 ?_
          refine x_goto 228 (x_at tdX12_done 68 rfl) rfl ?_
          refine x_cSi (as := [.int 1]) (rest := []) mi_X12_truth (x_at tdX12_done 70 rfl) wm_X12_344 rfl (Nat.le_of_ble_eq_true rfl) rfl H (fun r57 S57 H => ?_)
          exact x_ireturn (ty := .int) rfl rfl (x_at tdX12_done 71 rfl) ⟨_, rfl, H⟩
    · refine x_tsw 156 (x_at tdX12_done 1 rfl) hx (by decide) (by decide) rfl rfl ?_
      have H := H.2.2.2.2.2.2.2.2.2.2.2.2.2.2.2.2.2.2.2.2.2.2.2.2.1 hx
      refine x_iload_n (x_at tdX12_done 30 rfl) rfl rfl ?_
      refine x_iload_n (x_at tdX12_done 31 rfl) rfl rfl ?_
      refine x_ic_ge 165 (x_at tdX12_done 32 rfl) rfl (fun c => ?_) (fun c => ?_)
      · have H := H.1 c
        refine x_iconst (x_at tdX12_done 35 rfl) k_c_0 ?_
        refine x_cSi (as := [.int 0]) (rest := []) mi_X12_truth (x_at tdX12_done 36 rfl) wm_X12_344 rfl (Nat.le_of_ble_eq_true rfl) rfl H (fun r58 S58 H => ?_)
        exact x_ireturn (ty := .int) rfl rfl (x_at tdX12_done 37 rfl) ⟨_, rfl, H⟩
      · have H := H.2 c
        refine x_iconst (x_at tdX12_done 33 rfl) k_c_1 ?_
        refine x_goto 166 (x_at tdX12_done 34 rfl) rfl ?_
        refine x_cSi (as := [.int 1]) (rest := []) mi_X12_truth (x_at tdX12_done 36 rfl) wm_X12_344 rfl (Nat.le_of_ble_eq_true rfl) rfl H (fun r59 S59 H => ?_)
        exact x_ireturn (ty := .int) rfl rfl (x_at tdX12_done 37 rfl) ⟨_, rfl, H⟩
    · refine x_tsw 184 (x_at tdX12_done 1 rfl) hx (by decide) (by decide) rfl rfl ?_
      have H := H.2.2.2.2.2.2.2.2.2.2.2.2.2.2.2.2.2.2.2.2.2.2.2.2.2.1 hx
      refine x_iload_n (x_at tdX12_done 46 rfl) rfl rfl ?_
      refine x_iload_n (x_at tdX12_done 47 rfl) rfl rfl ?_
      refine x_ic_ne 193 (x_at tdX12_done 48 rfl) rfl (fun c => ?_) (fun c => ?_)
      · have H := H.1 c
        refine x_iconst (x_at tdX12_done 51 rfl) k_c_0 ?_
        refine x_cSi (as := [.int 0]) (rest := []) mi_X12_truth (x_at tdX12_done 52 rfl) wm_X12_344 rfl (Nat.le_of_ble_eq_true rfl) rfl H (fun r60 S60 H => ?_)
        exact x_ireturn (ty := .int) rfl rfl (x_at tdX12_done 53 rfl) ⟨_, rfl, H⟩
      · have H := H.2 c
        refine x_iconst (x_at tdX12_done 49 rfl) k_c_1 ?_
        refine x_goto 194 (x_at tdX12_done 50 rfl) rfl ?_
        refine x_cSi (as := [.int 1]) (rest := []) mi_X12_truth (x_at tdX12_done 52 rfl) wm_X12_344 rfl (Nat.le_of_ble_eq_true rfl) rfl H (fun r61 S61 H => ?_)
        exact x_ireturn (ty := .int) rfl rfl (x_at tdX12_done 53 rfl) ⟨_, rfl, H⟩
    · refine x_tsw 170 (x_at tdX12_done 1 rfl) hx (by decide) (by decide) rfl rfl ?_
      have H := H.2.2.2.2.2.2.2.2.2.2.2.2.2.2.2.2.2.2.2.2.2.2.2.2.2.2 hx
      refine x_iload_n (x_at tdX12_done 38 rfl) rfl rfl ?_
      refine x_iload_n (x_at tdX12_done 39 rfl) rfl rfl ?_
      refine x_ic_le 179 (x_at tdX12_done 40 rfl) rfl (fun c => ?_) (fun c => ?_)
      · have H := H.1 c
        refine x_iconst (x_at tdX12_done 43 rfl) k_c_0 ?_
        refine x_cSi (as := [.int 0]) (rest := []) mi_X12_truth (x_at tdX12_done 44 rfl) wm_X12_344 rfl (Nat.le_of_ble_eq_true rfl) rfl H (fun r62 S62 H => ?_)
        exact x_ireturn (ty := .int) rfl rfl (x_at tdX12_done 45 rfl) ⟨_, rfl, H⟩
      · have H := H.2 c
        refine x_iconst (x_at tdX12_done 41 rfl) k_c_1 ?_
        refine x_goto 180 (x_at tdX12_done 42 rfl) rfl ?_
        refine x_cSi (as := [.int 1]) (rest := []) mi_X12_truth (x_at tdX12_done 44 rfl) wm_X12_344 rfl (Nat.le_of_ble_eq_true rfl) rfl H (fun r63 S63 H => ?_)
        exact x_ireturn (ty := .int) rfl rfl (x_at tdX12_done 45 rfl) ⟨_, rfl, H⟩
theorem e_M_wearOf {h : xH} {d : Nat} {x1 : Int32} {x2 : Int32} {x3 : Int32} {x4 : Int32} {S : xSt} {K : Int32 → xSt → Prop}  (H : ((¬ (S.1 0 66) = 0 → B_M_wearOf_53 h d x1 0 0 (x_putI (x_putI (x_putI (x_putI S 9 0 x1) 9 1 x2) 9 2 x3) 9 3 x4) K) ∧ ((S.1 0 66) = 0 → ((1 ≤ x1 → K 1 S) ∧ (¬ 1 ≤ x1 → K x1 S))))) : M_M_wearOf h d x1 x2 x3 x4 S K := by
  refine x_enter pn_X12 (Nat.le_of_ble_eq_true rfl) ?_
  show X (gM h) _ _ 0 [(0, .ref (x_ad (gM h) 0)), (1, .int x1), (2, .int x2), (3, .int x3), (4, .int x4)] [] S _
  refine x_aload_n (x_at tdX12_wearOf 0 rfl) rfl rfl ?_
  refine gfM_0_66 (x_at tdX12_wearOf 1 rfl) wf_X12_348 ?_
  refine x_if_ne 18 (x_at tdX12_wearOf 2 rfl) rfl (fun c => ?_) (fun c => ?_)
  · have H := H.1 c
    refine x_aload_n (x_at tdX12_wearOf 10 rfl) rfl rfl ?_
    refine gfM_0_24 (x_at tdX12_wearOf 11 rfl) wf_X12_39 ?_
    refine x_iconst (x_at tdX12_wearOf 12 rfl) k_c_0 ?_
    refine x_iload_n (x_at tdX12_wearOf 13 rfl) rfl rfl ?_
    refine x_iast (lM_9 h) (x_at tdX12_wearOf 14 rfl) vi_0_4 ?_
    refine x_aload_n (x_at tdX12_wearOf 15 rfl) rfl rfl ?_
    refine gfM_0_24 (x_at tdX12_wearOf 16 rfl) wf_X12_39 ?_
    refine x_iconst (x_at tdX12_wearOf 17 rfl) k_c_1 ?_
    refine x_iload_n (x_at tdX12_wearOf 18 rfl) rfl rfl ?_
    refine x_iast (lM_9 h) (x_at tdX12_wearOf 19 rfl) vi_1_4 ?_
    refine x_aload_n (x_at tdX12_wearOf 20 rfl) rfl rfl ?_
    refine gfM_0_24 (x_at tdX12_wearOf 21 rfl) wf_X12_39 ?_
    refine x_iconst (x_at tdX12_wearOf 22 rfl) k_c_2 ?_
    refine x_iload_n (x_at tdX12_wearOf 23 rfl) rfl rfl ?_
    refine x_iast (lM_9 h) (x_at tdX12_wearOf 24 rfl) vi_2_4 ?_
    refine x_aload_n (x_at tdX12_wearOf 25 rfl) rfl rfl ?_
    refine gfM_0_24 (x_at tdX12_wearOf 26 rfl) wf_X12_39 ?_
    refine x_iconst (x_at tdX12_wearOf 27 rfl) k_c_3 ?_
    refine x_iload (x_at tdX12_wearOf 28 rfl) rfl ?_
    refine x_iast (lM_9 h) (x_at tdX12_wearOf 29 rfl) vi_3_4 ?_
    refine x_iconst (x_at tdX12_wearOf 30 rfl) k_c_0 ?_
    refine x_istore (x_at tdX12_wearOf 31 rfl) (by decide) ?_
    refine x_iconst (x_at tdX12_wearOf 32 rfl) k_c_0 ?_
    refine x_istore (x_at tdX12_wearOf 33 rfl) (by decide) ?_
    refine x_weak (lv' := [(0, .ref (x_ad (gM h) 0)), (1, .int x1), (5, .int 0), (6, .int 0)]) ⟨rfl, rfl, rfl, rfl, trivial⟩ ?_
    exact H
  · have H := H.2 c
    refine x_iload_n (x_at tdX12_wearOf 3 rfl) rfl rfl ?_
    refine x_iconst (x_at tdX12_wearOf 4 rfl) k_c_1 ?_
    refine x_ic_ge 16 (x_at tdX12_wearOf 5 rfl) rfl (fun c => ?_) (fun c => ?_)
    · have H := H.1 c
      refine x_iconst (x_at tdX12_wearOf 8 rfl) k_c_1 ?_
      exact x_ireturn (ty := .int) rfl rfl (x_at tdX12_wearOf 9 rfl) ⟨_, rfl, H⟩
    · have H := H.2 c
      refine x_iload_n (x_at tdX12_wearOf 6 rfl) rfl rfl ?_
      refine x_goto 17 (x_at tdX12_wearOf 7 rfl) rfl ?_
      exact x_ireturn (ty := .int) rfl rfl (x_at tdX12_wearOf 9 rfl) ⟨_, rfl, H⟩
theorem b_M_wearOf_53 {h : xH} {d : Nat}  {x1 : Int32} {x5 : Int32} {x6 : Int32} {S : xSt} {K : Int32 → xSt → Prop}  (H : (((S.1 0 18) ≤ x6 → ((0 ≤ (S.1 8 0) → (((S.1 8 0) ≤ x1 → K (S.1 8 0) S) ∧ (¬ (S.1 8 0) ≤ x1 → K x1 S))) ∧ (¬ 0 ≤ (S.1 8 0) → K 0 S))) ∧ (¬ (S.1 0 18) ≤ x6 → (vp_in x6 320 ∧ (((S.1 5 (x6 : Int32).toNatClampNeg) = 0 → B_M_wearOf_83 h d x1 x5 x6 S K) ∧ (¬ (S.1 5 (x6 : Int32).toNatClampNeg) = 0 → (vp_in x6 320 ∧ ((¬ (S.1 5 (x6 : Int32).toNatClampNeg) = 1 → (vp_in x6 320 ∧ ((¬ (S.1 5 (x6 : Int32).toNatClampNeg) = 2 → (vp_in x6 320 ∧ (vp_in ((x5 + (-1)) - (1 : Int32)) 64 ∧ (vp_in (x5 + (-1)) 64 ∧ M_M_done h d (S.1 6 (x6 : Int32).toNatClampNeg) (S.1 8 (((x5 + (-1)) - (1 : Int32)) : Int32).toNatClampNeg) (S.1 8 ((x5 + (-1)) : Int32).toNatClampNeg) S (fun (r1 : Int32) (S1 : xSt) => (vp_in ((x5 + (-1)) - (1 : Int32)) 64 ∧ B_M_wearOf_209 h d x1 (x5 + (-1)) x6 (x_putI S1 8 (((x5 + (-1)) - (1 : Int32)) : Int32).toNatClampNeg r1) K)))))) ∧ ((S.1 5 (x6 : Int32).toNatClampNeg) = 2 → (vp_in (x5 - (1 : Int32)) 64 ∧ ((¬ (S.1 8 ((x5 - (1 : Int32)) : Int32).toNatClampNeg) = 0 → B_M_wearOf_164 h d x1 x5 x6 0 (x5 - (1 : Int32)) S K) ∧ ((S.1 8 ((x5 - (1 : Int32)) : Int32).toNatClampNeg) = 0 → B_M_wearOf_164 h d x1 x5 x6 1 (x5 - (1 : Int32)) S K))))))) ∧ ((S.1 5 (x6 : Int32).toNatClampNeg) = 1 → B_M_wearOf_83 h d x1 x5 x6 S K))))))))) : B_M_wearOf_53 h d x1 x5 x6 S K := by
  unfold B_M_wearOf_53
  refine x_iload (x_at tdX12_wearOf 34 rfl) rfl ?_
  refine x_aload_n (x_at tdX12_wearOf 35 rfl) rfl rfl ?_
  refine gfM_0_18 (x_at tdX12_wearOf 36 rfl) wf_X12_352 ?_
  refine x_ic_ge 215 (x_at tdX12_wearOf 37 rfl) rfl (fun c => ?_) (fun c => ?_)
  · have H := H.1 c
    refine x_aload_n (x_at tdX12_wearOf 120 rfl) rfl rfl ?_
    refine gfM_0_16 (x_at tdX12_wearOf 121 rfl) wf_X12_36 ?_
    refine x_iconst (x_at tdX12_wearOf 122 rfl) k_c_0 ?_
    refine x_iald (lM_8 h) (x_at tdX12_wearOf 123 rfl) vi_0_64 ?_
    refine x_top (v := (S.1 8 0)) rfl ?_
    refine x_if_ge 228 (x_at tdX12_wearOf 124 rfl) rfl (fun c => ?_) (fun c => ?_)
    · have H := H.1 c
      refine x_aload_n (x_at tdX12_wearOf 127 rfl) rfl rfl ?_
      refine gfM_0_16 (x_at tdX12_wearOf 128 rfl) wf_X12_36 ?_
      refine x_iconst (x_at tdX12_wearOf 129 rfl) k_c_0 ?_
      refine x_iald (lM_8 h) (x_at tdX12_wearOf 130 rfl) vi_0_64 ?_
      refine x_top (v := (S.1 8 0)) rfl ?_
      refine x_iload_n (x_at tdX12_wearOf 131 rfl) rfl rfl ?_
      refine x_ic_le 242 (x_at tdX12_wearOf 132 rfl) rfl (fun c => ?_) (fun c => ?_)
      · have H := H.1 c
        refine x_aload_n (x_at tdX12_wearOf 135 rfl) rfl rfl ?_
        refine gfM_0_16 (x_at tdX12_wearOf 136 rfl) wf_X12_36 ?_
        refine x_iconst (x_at tdX12_wearOf 137 rfl) k_c_0 ?_
        refine x_iald (lM_8 h) (x_at tdX12_wearOf 138 rfl) vi_0_64 ?_
        refine x_top (v := (S.1 8 0)) rfl ?_
        exact x_ireturn (ty := .int) rfl rfl (x_at tdX12_wearOf 139 rfl) ⟨_, rfl, H⟩
      · have H := H.2 c
        refine x_iload_n (x_at tdX12_wearOf 133 rfl) rfl rfl ?_
        refine x_goto 248 (x_at tdX12_wearOf 134 rfl) rfl ?_
        exact x_ireturn (ty := .int) rfl rfl (x_at tdX12_wearOf 139 rfl) ⟨_, rfl, H⟩
    · have H := H.2 c
      refine x_iconst (x_at tdX12_wearOf 125 rfl) k_c_0 ?_
      refine x_goto 248 (x_at tdX12_wearOf 126 rfl) rfl ?_
      exact x_ireturn (ty := .int) rfl rfl (x_at tdX12_wearOf 139 rfl) ⟨_, rfl, H⟩
  · have H := H.2 c
    refine x_aload_n (x_at tdX12_wearOf 38 rfl) rfl rfl ?_
    refine gfM_0_13 (x_at tdX12_wearOf 39 rfl) wf_X12_27 ?_
    refine x_iload (x_at tdX12_wearOf 40 rfl) rfl ?_
    refine x_iald (lM_5 h) (x_at tdX12_wearOf 41 rfl) H.1 ?_
    have H := H.2
    refine x_if_eq 83 (x_at tdX12_wearOf 42 rfl) rfl (fun c => ?_) (fun c => ?_)
    · have H := H.1 c
      refine x_weak (lv' := [(0, .ref (x_ad (gM h) 0)), (1, .int x1), (5, .int x5), (6, .int x6)]) ⟨rfl, rfl, rfl, rfl, trivial⟩ ?_
      exact H
    · have H := H.2 c
      refine x_aload_n (x_at tdX12_wearOf 43 rfl) rfl rfl ?_
      refine gfM_0_13 (x_at tdX12_wearOf 44 rfl) wf_X12_27 ?_
      refine x_iload (x_at tdX12_wearOf 45 rfl) rfl ?_
      refine x_iald (lM_5 h) (x_at tdX12_wearOf 46 rfl) H.1 ?_
      have H := H.2
      refine x_iconst (x_at tdX12_wearOf 47 rfl) k_c_1 ?_
      refine x_ic_ne 128 (x_at tdX12_wearOf 48 rfl) rfl (fun c => ?_) (fun c => ?_)
      · have H := H.1 c
        refine x_aload_n (x_at tdX12_wearOf 72 rfl) rfl rfl ?_
        refine gfM_0_13 (x_at tdX12_wearOf 73 rfl) wf_X12_27 ?_
        refine x_iload (x_at tdX12_wearOf 74 rfl) rfl ?_
        refine x_iald (lM_5 h) (x_at tdX12_wearOf 75 rfl) H.1 ?_
        have H := H.2
        refine x_iconst (x_at tdX12_wearOf 76 rfl) k_c_2 ?_
        refine x_ic_ne 171 (x_at tdX12_wearOf 77 rfl) rfl (fun c => ?_) (fun c => ?_)
        · have H := H.1 c
          refine x_iinc (x_at tdX12_wearOf 96 rfl) rfl (k_inc_m1 _) (by decide) ?_
          refine x_aload_n (x_at tdX12_wearOf 97 rfl) rfl rfl ?_
          refine gfM_0_16 (x_at tdX12_wearOf 98 rfl) wf_X12_36 ?_
          refine x_iload (x_at tdX12_wearOf 99 rfl) rfl ?_
          refine x_iconst (x_at tdX12_wearOf 100 rfl) k_c_1 ?_
          refine x_isub (x_at tdX12_wearOf 101 rfl) ?_
          refine x_aload_n (x_at tdX12_wearOf 102 rfl) rfl rfl ?_
          refine gfM_0_14 (x_at tdX12_wearOf 103 rfl) wf_X12_30 ?_
          refine x_iload (x_at tdX12_wearOf 104 rfl) rfl ?_
          refine x_iald (lM_6 h) (x_at tdX12_wearOf 105 rfl) H.1 ?_
          have H := H.2
          refine x_aload_n (x_at tdX12_wearOf 106 rfl) rfl rfl ?_
          refine gfM_0_16 (x_at tdX12_wearOf 107 rfl) wf_X12_36 ?_
          refine x_iload (x_at tdX12_wearOf 108 rfl) rfl ?_
          refine x_iconst (x_at tdX12_wearOf 109 rfl) k_c_1 ?_
          refine x_isub (x_at tdX12_wearOf 110 rfl) ?_
          refine x_iald (lM_8 h) (x_at tdX12_wearOf 111 rfl) H.1 ?_
          have H := H.2
          refine x_aload_n (x_at tdX12_wearOf 112 rfl) rfl rfl ?_
          refine gfM_0_16 (x_at tdX12_wearOf 113 rfl) wf_X12_36 ?_
          refine x_iload (x_at tdX12_wearOf 114 rfl) rfl ?_
          refine x_iald (lM_8 h) (x_at tdX12_wearOf 115 rfl) H.1 ?_
          have H := H.2
          refine x_cSi (as := [.int (S.1 6 (x6 : Int32).toNatClampNeg), .int (S.1 8 (((x5 + (-1)) - (1 : Int32)) : Int32).toNatClampNeg), .int (S.1 8 ((x5 + (-1)) : Int32).toNatClampNeg)]) (rest := [.int ((x5 + (-1)) - (1 : Int32)), .ref (x_ad (gM h) 8)]) mi_X12_done (x_at tdX12_wearOf 116 rfl) wm_X12_355 rfl (Nat.le_of_ble_eq_true rfl) rfl H (fun r1 S1 H => ?_)
          refine x_iast (lM_8 h) (x_at tdX12_wearOf 117 rfl) H.1 ?_
          have H := H.2
          refine x_weak (lv' := [(0, .ref (x_ad (gM h) 0)), (1, .int x1), (5, .int (x5 + (-1))), (6, .int x6)]) ⟨rfl, rfl, rfl, rfl, trivial⟩ ?_
          exact H
        · have H := H.2 c
          refine x_aload_n (x_at tdX12_wearOf 78 rfl) rfl rfl ?_
          refine gfM_0_16 (x_at tdX12_wearOf 79 rfl) wf_X12_36 ?_
          refine x_iload (x_at tdX12_wearOf 80 rfl) rfl ?_
          refine x_iconst (x_at tdX12_wearOf 81 rfl) k_c_1 ?_
          refine x_isub (x_at tdX12_wearOf 82 rfl) ?_
          refine x_aload_n (x_at tdX12_wearOf 83 rfl) rfl rfl ?_
          refine gfM_0_16 (x_at tdX12_wearOf 84 rfl) wf_X12_36 ?_
          refine x_iload (x_at tdX12_wearOf 85 rfl) rfl ?_
          refine x_iconst (x_at tdX12_wearOf 86 rfl) k_c_1 ?_
          refine x_isub (x_at tdX12_wearOf 87 rfl) ?_
          refine x_iald (lM_8 h) (x_at tdX12_wearOf 88 rfl) H.1 ?_
          have H := H.2
          refine x_if_ne 163 (x_at tdX12_wearOf 89 rfl) rfl (fun c => ?_) (fun c => ?_)
          · have H := H.1 c
            refine x_iconst (x_at tdX12_wearOf 92 rfl) k_c_0 ?_
            refine x_weak (lv' := [(0, .ref (x_ad (gM h) 0)), (1, .int x1), (5, .int x5), (6, .int x6)]) ⟨rfl, rfl, rfl, rfl, trivial⟩ ?_
            exact H
          · have H := H.2 c
            refine x_iconst (x_at tdX12_wearOf 90 rfl) k_c_1 ?_
            refine x_goto 164 (x_at tdX12_wearOf 91 rfl) rfl ?_
            refine x_weak (lv' := [(0, .ref (x_ad (gM h) 0)), (1, .int x1), (5, .int x5), (6, .int x6)]) ⟨rfl, rfl, rfl, rfl, trivial⟩ ?_
            exact H
      · have H := H.2 c
        refine x_weak (lv' := [(0, .ref (x_ad (gM h) 0)), (1, .int x1), (5, .int x5), (6, .int x6)]) ⟨rfl, rfl, rfl, rfl, trivial⟩ ?_
        exact H
theorem b_M_wearOf_83 {h : xH} {d : Nat}  {x1 : Int32} {x5 : Int32} {x6 : Int32} {S : xSt} {K : Int32 → xSt → Prop}  (H : (vp_in x6 320 ∧ ((¬ (S.1 5 (x6 : Int32).toNatClampNeg) = 0 → (vp_in x6 320 ∧ (vp_in (S.1 6 (x6 : Int32).toNatClampNeg) 4 ∧ B_M_wearOf_121 h d x1 x5 x6 (S.1 9 ((S.1 6 (x6 : Int32).toNatClampNeg) : Int32).toNatClampNeg) x5 S K))) ∧ ((S.1 5 (x6 : Int32).toNatClampNeg) = 0 → (vp_in x6 320 ∧ B_M_wearOf_121 h d x1 x5 x6 (S.1 6 (x6 : Int32).toNatClampNeg) x5 S K))))) : B_M_wearOf_83 h d x1 x5 x6 S K := by
  unfold B_M_wearOf_83
  refine x_aload_n (x_at tdX12_wearOf 49 rfl) rfl rfl ?_
  refine gfM_0_16 (x_at tdX12_wearOf 50 rfl) wf_X12_36 ?_
  refine x_iload (x_at tdX12_wearOf 51 rfl) rfl ?_
  refine x_aload_n (x_at tdX12_wearOf 52 rfl) rfl rfl ?_
  refine gfM_0_13 (x_at tdX12_wearOf 53 rfl) wf_X12_27 ?_
  refine x_iload (x_at tdX12_wearOf 54 rfl) rfl ?_
  refine x_iald (lM_5 h) (x_at tdX12_wearOf 55 rfl) H.1 ?_
  have H := H.2
  refine x_if_ne 109 (x_at tdX12_wearOf 56 rfl) rfl (fun c => ?_) (fun c => ?_)
  · have H := H.1 c
    refine x_aload_n (x_at tdX12_wearOf 62 rfl) rfl rfl ?_
    refine gfM_0_24 (x_at tdX12_wearOf 63 rfl) wf_X12_39 ?_
    refine x_aload_n (x_at tdX12_wearOf 64 rfl) rfl rfl ?_
    refine gfM_0_14 (x_at tdX12_wearOf 65 rfl) wf_X12_30 ?_
    refine x_iload (x_at tdX12_wearOf 66 rfl) rfl ?_
    refine x_iald (lM_6 h) (x_at tdX12_wearOf 67 rfl) H.1 ?_
    have H := H.2
    refine x_iald (lM_9 h) (x_at tdX12_wearOf 68 rfl) H.1 ?_
    have H := H.2
    refine x_weak (lv' := [(0, .ref (x_ad (gM h) 0)), (1, .int x1), (5, .int x5), (6, .int x6)]) ⟨rfl, rfl, rfl, rfl, trivial⟩ ?_
    exact H
  · have H := H.2 c
    refine x_aload_n (x_at tdX12_wearOf 57 rfl) rfl rfl ?_
    refine gfM_0_14 (x_at tdX12_wearOf 58 rfl) wf_X12_30 ?_
    refine x_iload (x_at tdX12_wearOf 59 rfl) rfl ?_
    refine x_iald (lM_6 h) (x_at tdX12_wearOf 60 rfl) H.1 ?_
    have H := H.2
    refine x_goto 121 (x_at tdX12_wearOf 61 rfl) rfl ?_
    refine x_weak (lv' := [(0, .ref (x_ad (gM h) 0)), (1, .int x1), (5, .int x5), (6, .int x6)]) ⟨rfl, rfl, rfl, rfl, trivial⟩ ?_
    exact H
theorem b_M_wearOf_121 {h : xH} {d : Nat}  {x1 : Int32} {x5 : Int32} {x6 : Int32} {s0 : Int32} {s1 : Int32} {S : xSt} {K : Int32 → xSt → Prop}  (H : (vp_in s1 64 ∧ B_M_wearOf_209 h d x1 (x5 + 1) x6 (x_putI S 8 (s1 : Int32).toNatClampNeg s0) K)) : B_M_wearOf_121 h d x1 x5 x6 s0 s1 S K := by
  unfold B_M_wearOf_121
  refine x_iast (lM_8 h) (x_at tdX12_wearOf 69 rfl) H.1 ?_
  have H := H.2
  refine x_iinc (x_at tdX12_wearOf 70 rfl) rfl (k_inc_1 _) (by decide) ?_
  refine x_goto 209 (x_at tdX12_wearOf 71 rfl) rfl ?_
  refine x_weak (lv' := [(0, .ref (x_ad (gM h) 0)), (1, .int x1), (5, .int (x5 + 1)), (6, .int x6)]) ⟨rfl, rfl, rfl, rfl, trivial⟩ ?_
  exact H
theorem b_M_wearOf_164 {h : xH} {d : Nat}  {x1 : Int32} {x5 : Int32} {x6 : Int32} {s0 : Int32} {s1 : Int32} {S : xSt} {K : Int32 → xSt → Prop}  (H : M_M_truth h (d + 1) s0 S (fun (r1 : Int32) (S1 : xSt) => (vp_in s1 64 ∧ B_M_wearOf_209 h d x1 x5 x6 (x_putI S1 8 (s1 : Int32).toNatClampNeg r1) K))) : B_M_wearOf_164 h d x1 x5 x6 s0 s1 S K := by
  unfold B_M_wearOf_164
  refine x_cSi (as := [.int s0]) (rest := [.int s1, .ref (x_ad (gM h) 8)]) mi_X12_truth (x_at tdX12_wearOf 93 rfl) wm_X12_344 rfl (Nat.le_of_ble_eq_true rfl) rfl H (fun r1 S1 H => ?_)
  refine x_iast (lM_8 h) (x_at tdX12_wearOf 94 rfl) H.1 ?_
  have H := H.2
  refine x_goto 209 (x_at tdX12_wearOf 95 rfl) rfl ?_
  refine x_weak (lv' := [(0, .ref (x_ad (gM h) 0)), (1, .int x1), (5, .int x5), (6, .int x6)]) ⟨rfl, rfl, rfl, rfl, trivial⟩ ?_
  exact H
theorem b_M_wearOf_209 {h : xH} {d : Nat}  {x1 : Int32} {x5 : Int32} {x6 : Int32} {S : xSt} {K : Int32 → xSt → Prop}  (H : B_M_wearOf_53 h d x1 x5 (x6 + 1) S K) : B_M_wearOf_209 h d x1 x5 x6 S K := by
  unfold B_M_wearOf_209
  refine x_iinc (x_at tdX12_wearOf 118 rfl) rfl (k_inc_1 _) (by decide) ?_
  refine x_goto 53 (x_at tdX12_wearOf 119 rfl) rfl ?_
  refine x_weak (lv' := [(0, .ref (x_ad (gM h) 0)), (1, .int x1), (5, .int x5), (6, .int (x6 + 1))]) ⟨rfl, rfl, rfl, rfl, trivial⟩ ?_
  exact H
theorem e_M_goDay {h : xH} {d : Nat}  {S : xSt} {K : Int32 → xSt → Prop}  (H : (((S.1 0 61) ≤ (((((S.1 0 74) * (137 : Int32)) + (71 : Int32)) - (((S.1 0 74) * (137 : Int32)) + (71 : Int32)) / 1000 * 1000) - ((((S.1 0 74) * (137 : Int32)) + (71 : Int32)) - (((S.1 0 74) * (137 : Int32)) + (71 : Int32)) / 1000 * 1000) / 100 * 100) → B_M_goDay_38 h d 0 (x_putI S 0 74 ((((S.1 0 74) * (137 : Int32)) + (71 : Int32)) - (((S.1 0 74) * (137 : Int32)) + (71 : Int32)) / 1000 * 1000)) K) ∧ (¬ (S.1 0 61) ≤ (((((S.1 0 74) * (137 : Int32)) + (71 : Int32)) - (((S.1 0 74) * (137 : Int32)) + (71 : Int32)) / 1000 * 1000) - ((((S.1 0 74) * (137 : Int32)) + (71 : Int32)) - (((S.1 0 74) * (137 : Int32)) + (71 : Int32)) / 1000 * 1000) / 100 * 100) → B_M_goDay_38 h d 1 (x_putI S 0 74 ((((S.1 0 74) * (137 : Int32)) + (71 : Int32)) - (((S.1 0 74) * (137 : Int32)) + (71 : Int32)) / 1000 * 1000)) K))) : M_M_goDay h d S K := by
  refine x_enter pn_X12 (Nat.le_of_ble_eq_true rfl) ?_
  show X (gM h) _ _ 0 [(0, .ref (x_ad (gM h) 0))] [] S _
  refine x_aload_n (x_at tdX12_goDay 0 rfl) rfl rfl ?_
  refine x_aload_n (x_at tdX12_goDay 1 rfl) rfl rfl ?_
  refine gfM_0_74 (x_at tdX12_goDay 2 rfl) wf_X12_478 ?_
  refine x_sipush (x_at tdX12_goDay 3 rfl) k_s_137 ?_
  refine x_imul (x_at tdX12_goDay 4 rfl) ?_
  refine x_bipush (x_at tdX12_goDay 5 rfl) k_b_71 ?_
  refine x_iadd (x_at tdX12_goDay 6 rfl) ?_
  refine x_sipush (x_at tdX12_goDay 7 rfl) k_s_1000 ?_
  refine x_irem (x_at tdX12_goDay 8 rfl) (by decide) ?_
  refine pfM_0_74 (x_at tdX12_goDay 9 rfl) wf_X12_478 ?_
  refine x_aload_n (x_at tdX12_goDay 10 rfl) rfl rfl ?_
  refine gfM_0_74 (x_at tdX12_goDay 11 rfl) wf_X12_478 ?_
  refine x_top (v := ((((S.1 0 74) * (137 : Int32)) + (71 : Int32)) - (((S.1 0 74) * (137 : Int32)) + (71 : Int32)) / 1000 * 1000)) rfl ?_
  refine x_bipush (x_at tdX12_goDay 12 rfl) k_b_100 ?_
  refine x_irem (x_at tdX12_goDay 13 rfl) (by decide) ?_
  refine x_aload_n (x_at tdX12_goDay 14 rfl) rfl rfl ?_
  refine gfM_0_61 (x_at tdX12_goDay 15 rfl) wf_X12_435 ?_
  refine x_top (v := (S.1 0 61)) rfl ?_
  refine x_ic_ge 37 (x_at tdX12_goDay 16 rfl) rfl (fun c => ?_) (fun c => ?_)
  · have H := H.1 c
    refine x_iconst (x_at tdX12_goDay 19 rfl) k_c_0 ?_
    refine x_weak (lv' := [(0, .ref (x_ad (gM h) 0))]) ⟨rfl, trivial⟩ ?_
    exact H
  · have H := H.2 c
    refine x_iconst (x_at tdX12_goDay 17 rfl) k_c_1 ?_
    refine x_goto 38 (x_at tdX12_goDay 18 rfl) rfl ?_
    refine x_weak (lv' := [(0, .ref (x_ad (gM h) 0))]) ⟨rfl, trivial⟩ ?_
    exact H
theorem b_M_goDay_38 {h : xH} {d : Nat}  {s0 : Int32} {S : xSt} {K : Int32 → xSt → Prop}  (H : M_M_truth h (d + 2) s0 S (fun (r1 : Int32) (S1 : xSt) => B_M_goDay_46 h d r1 0 0 S1 K)) : B_M_goDay_38 h d s0 S K := by
  unfold B_M_goDay_38
  refine x_cSi (as := [.int s0]) (rest := []) mi_X12_truth (x_at tdX12_goDay 20 rfl) wm_X12_344 rfl (Nat.le_of_ble_eq_true rfl) rfl H (fun r1 S1 H => ?_)
  refine x_istore_n (x_at tdX12_goDay 21 rfl) rfl (by decide) ?_
  refine x_iconst (x_at tdX12_goDay 22 rfl) k_c_0 ?_
  refine x_istore_n (x_at tdX12_goDay 23 rfl) rfl (by decide) ?_
  refine x_iconst (x_at tdX12_goDay 24 rfl) k_c_0 ?_
  refine x_istore_n (x_at tdX12_goDay 25 rfl) rfl (by decide) ?_
  refine x_weak (lv' := [(0, .ref (x_ad (gM h) 0)), (1, .int r1), (2, .int 0), (3, .int 0)]) ⟨rfl, rfl, rfl, rfl, trivial⟩ ?_
  exact H
theorem b_M_goDay_46 {h : xH} {d : Nat}  {x1 : Int32} {x2 : Int32} {x3 : Int32} {S : xSt} {K : Int32 → xSt → Prop}  (H : (((S.1 0 58) ≤ x3 → B_M_goDay_141 h d x2 0 (x_putI S 0 73 ((S.1 0 73) + (1 : Int32))) K) ∧ (¬ (S.1 0 58) ≤ x3 → (vp_in x3 10 ∧ (((S.1 36 (x3 : Int32).toNatClampNeg) = 0 → (vp_in x3 10 ∧ (vp_in x3 10 ∧ (vp_in x3 10 ∧ (vp_in (S.1 27 (x3 : Int32).toNatClampNeg) 6 ∧ M_M_wearOf h d (S.1 37 (x3 : Int32).toNatClampNeg) (S.1 16 ((S.1 27 (x3 : Int32).toNatClampNeg) : Int32).toNatClampNeg) x1 (S.1 0 73) S (fun (r1 : Int32) (S1 : xSt) => (vp_in x3 10 ∧ (vp_in x3 10 ∧ ((((S.1 37 (x3 : Int32).toNatClampNeg) - r1) ≤ 0 → (vp_in x3 10 ∧ B_M_goDay_123 h d x1 (x2 + 1) x3 (x_putI (x_putI S1 37 (x3 : Int32).toNatClampNeg ((S.1 37 (x3 : Int32).toNatClampNeg) - r1)) 36 (x3 : Int32).toNatClampNeg 4) K)) ∧ (¬ ((S.1 37 (x3 : Int32).toNatClampNeg) - r1) ≤ 0 → B_M_goDay_123 h d x1 x2 x3 (x_putI S1 37 (x3 : Int32).toNatClampNeg ((S.1 37 (x3 : Int32).toNatClampNeg) - r1)) K)))))))))) ∧ (¬ (S.1 36 (x3 : Int32).toNatClampNeg) = 0 → B_M_goDay_123 h d x1 x2 x3 S K)))))) : B_M_goDay_46 h d x1 x2 x3 S K := by
  unfold B_M_goDay_46
  refine x_iload_n (x_at tdX12_goDay 26 rfl) rfl rfl ?_
  refine x_aload_n (x_at tdX12_goDay 27 rfl) rfl rfl ?_
  refine gfM_0_58 (x_at tdX12_goDay 28 rfl) wf_X12_429 ?_
  refine x_ic_ge 129 (x_at tdX12_goDay 29 rfl) rfl (fun c => ?_) (fun c => ?_)
  · have H := H.1 c
    refine x_aload_n (x_at tdX12_goDay 73 rfl) rfl rfl ?_
    refine x_dup (x_at tdX12_goDay 74 rfl) rfl ?_
    refine gfM_0_73 (x_at tdX12_goDay 75 rfl) wf_X12_475 ?_
    refine x_iconst (x_at tdX12_goDay 76 rfl) k_c_1 ?_
    refine x_iadd (x_at tdX12_goDay 77 rfl) ?_
    refine pfM_0_73 (x_at tdX12_goDay 78 rfl) wf_X12_475 ?_
    refine x_iconst (x_at tdX12_goDay 79 rfl) k_c_0 ?_
    refine x_istore_n (x_at tdX12_goDay 80 rfl) rfl (by decide) ?_
    refine x_weak (lv' := [(0, .ref (x_ad (gM h) 0)), (2, .int x2), (3, .int 0)]) ⟨rfl, rfl, rfl, trivial⟩ ?_
    exact H
  · have H := H.2 c
    refine x_aload_n (x_at tdX12_goDay 30 rfl) rfl rfl ?_
    refine gfM_0_71 (x_at tdX12_goDay 31 rfl) wf_X12_124 ?_
    refine x_iload_n (x_at tdX12_goDay 32 rfl) rfl rfl ?_
    refine x_iald (lM_36 h) (x_at tdX12_goDay 33 rfl) H.1 ?_
    have H := H.2
    refine x_if_eq 66 (x_at tdX12_goDay 34 rfl) rfl (fun c => ?_) (fun c => ?_)
    · have H := H.1 c
      refine x_aload_n (x_at tdX12_goDay 36 rfl) rfl rfl ?_
      refine gfM_0_72 (x_at tdX12_goDay 37 rfl) wf_X12_127 ?_
      refine x_iload_n (x_at tdX12_goDay 38 rfl) rfl rfl ?_
      refine x_dup2 (x_at tdX12_goDay 39 rfl) rfl rfl ?_
      refine x_iald (lM_37 h) (x_at tdX12_goDay 40 rfl) H.1 ?_
      have H := H.2
      refine x_aload_n (x_at tdX12_goDay 41 rfl) rfl rfl ?_
      refine x_aload_n (x_at tdX12_goDay 42 rfl) rfl rfl ?_
      refine gfM_0_72 (x_at tdX12_goDay 43 rfl) wf_X12_127 ?_
      refine x_iload_n (x_at tdX12_goDay 44 rfl) rfl rfl ?_
      refine x_iald (lM_37 h) (x_at tdX12_goDay 45 rfl) H.1 ?_
      have H := H.2
      refine x_aload_n (x_at tdX12_goDay 46 rfl) rfl rfl ?_
      refine gfM_0_31 (x_at tdX12_goDay 47 rfl) wf_X12_60 ?_
      refine x_aload_n (x_at tdX12_goDay 48 rfl) rfl rfl ?_
      refine gfM_0_42 (x_at tdX12_goDay 49 rfl) wf_X12_93 ?_
      refine x_iload_n (x_at tdX12_goDay 50 rfl) rfl rfl ?_
      refine x_iald (lM_27 h) (x_at tdX12_goDay 51 rfl) H.1 ?_
      have H := H.2
      refine x_iald (lM_16 h) (x_at tdX12_goDay 52 rfl) H.1 ?_
      have H := H.2
      refine x_iload_n (x_at tdX12_goDay 53 rfl) rfl rfl ?_
      refine x_aload_n (x_at tdX12_goDay 54 rfl) rfl rfl ?_
      refine gfM_0_73 (x_at tdX12_goDay 55 rfl) wf_X12_475 ?_
      refine x_cVi (as := [.int (S.1 37 (x3 : Int32).toNatClampNeg), .int (S.1 16 ((S.1 27 (x3 : Int32).toNatClampNeg) : Int32).toNatClampNeg), .int x1, .int (S.1 0 73)]) (rest := [.int (S.1 37 (x3 : Int32).toNatClampNeg), .int x3, .ref (x_ad (gM h) 37)]) mi_X12_wearOf vc_12 (lM_0 h) (x_at tdX12_goDay 56 rfl) wm_X12_481 rfl (Nat.le_of_ble_eq_true rfl) rfl H (fun r1 S1 H => ?_)
      refine x_isub (x_at tdX12_goDay 57 rfl) ?_
      refine x_iast (lM_37 h) (x_at tdX12_goDay 58 rfl) H.1 ?_
      have H := H.2
      refine x_aload_n (x_at tdX12_goDay 59 rfl) rfl rfl ?_
      refine gfM_0_72 (x_at tdX12_goDay 60 rfl) wf_X12_127 ?_
      refine x_iload_n (x_at tdX12_goDay 61 rfl) rfl rfl ?_
      refine x_iald (lM_37 h) (x_at tdX12_goDay 62 rfl) H.1 ?_
      have H := H.2
      refine x_top (v := ((S.1 37 (x3 : Int32).toNatClampNeg) - r1)) (by simp [x_putI, upd]) ?_
      refine x_if_le 113 (x_at tdX12_goDay 63 rfl) rfl (fun c => ?_) (fun c => ?_)
      · have H := H.1 c
        refine x_aload_n (x_at tdX12_goDay 65 rfl) rfl rfl ?_
        refine gfM_0_71 (x_at tdX12_goDay 66 rfl) wf_X12_124 ?_
        refine x_iload_n (x_at tdX12_goDay 67 rfl) rfl rfl ?_
        refine x_iconst (x_at tdX12_goDay 68 rfl) k_c_4 ?_
        refine x_iast (lM_36 h) (x_at tdX12_goDay 69 rfl) H.1 ?_
        have H := H.2
        refine x_iinc (x_at tdX12_goDay 70 rfl) rfl (k_inc_1 _) (by decide) ?_
        refine x_weak (lv' := [(0, .ref (x_ad (gM h) 0)), (1, .int x1), (2, .int (x2 + 1)), (3, .int x3)]) ⟨rfl, rfl, rfl, rfl, trivial⟩ ?_
        exact H
      · have H := H.2 c
        refine x_goto 123 (x_at tdX12_goDay 64 rfl) rfl ?_
        refine x_weak (lv' := [(0, .ref (x_ad (gM h) 0)), (1, .int x1), (2, .int x2), (3, .int x3)]) ⟨rfl, rfl, rfl, rfl, trivial⟩ ?_
        exact H
    · have H := H.2 c
      refine x_goto 123 (x_at tdX12_goDay 35 rfl) rfl ?_
      refine x_weak (lv' := [(0, .ref (x_ad (gM h) 0)), (1, .int x1), (2, .int x2), (3, .int x3)]) ⟨rfl, rfl, rfl, rfl, trivial⟩ ?_
      exact H
theorem b_M_goDay_123 {h : xH} {d : Nat}  {x1 : Int32} {x2 : Int32} {x3 : Int32} {S : xSt} {K : Int32 → xSt → Prop}  (H : B_M_goDay_46 h d x1 x2 (x3 + 1) S K) : B_M_goDay_123 h d x1 x2 x3 S K := by
  unfold B_M_goDay_123
  refine x_iinc (x_at tdX12_goDay 71 rfl) rfl (k_inc_1 _) (by decide) ?_
  refine x_goto 46 (x_at tdX12_goDay 72 rfl) rfl ?_
  refine x_weak (lv' := [(0, .ref (x_ad (gM h) 0)), (1, .int x1), (2, .int x2), (3, .int (x3 + 1))]) ⟨rfl, rfl, rfl, rfl, trivial⟩ ?_
  exact H
theorem b_M_goDay_141 {h : xH} {d : Nat}  {x2 : Int32} {x3 : Int32} {S : xSt} {K : Int32 → xSt → Prop}  (H : (((S.1 0 58) ≤ x3 → K x2 S) ∧ (¬ (S.1 0 58) ≤ x3 → (vp_in x3 10 ∧ ((¬ (S.1 36 (x3 : Int32).toNatClampNeg) = 0 → B_M_goDay_191 h d x2 x3 S K) ∧ ((S.1 36 (x3 : Int32).toNatClampNeg) = 0 → (vp_in x3 10 ∧ (((S.1 0 73) ≤ (S.1 29 (x3 : Int32).toNatClampNeg) → B_M_goDay_191 h d x2 x3 S K) ∧ (¬ (S.1 0 73) ≤ (S.1 29 (x3 : Int32).toNatClampNeg) → (vp_in x3 10 ∧ (((S.1 33 (x3 : Int32).toNatClampNeg) = 0 → B_M_goDay_190 h d x2 x3 1 x3 S K) ∧ (¬ (S.1 33 (x3 : Int32).toNatClampNeg) = 0 → B_M_goDay_190 h d x2 x3 3 x3 S K)))))))))))) : B_M_goDay_141 h d x2 x3 S K := by
  unfold B_M_goDay_141
  refine x_iload_n (x_at tdX12_goDay 81 rfl) rfl rfl ?_
  refine x_aload_n (x_at tdX12_goDay 82 rfl) rfl rfl ?_
  refine gfM_0_58 (x_at tdX12_goDay 83 rfl) wf_X12_429 ?_
  refine x_ic_ge 197 (x_at tdX12_goDay 84 rfl) rfl (fun c => ?_) (fun c => ?_)
  · have H := H.1 c
    refine x_iload_n (x_at tdX12_goDay 111 rfl) rfl rfl ?_
    exact x_ireturn (ty := .int) rfl rfl (x_at tdX12_goDay 112 rfl) ⟨_, rfl, H⟩
  · have H := H.2 c
    refine x_aload_n (x_at tdX12_goDay 85 rfl) rfl rfl ?_
    refine gfM_0_71 (x_at tdX12_goDay 86 rfl) wf_X12_124 ?_
    refine x_iload_n (x_at tdX12_goDay 87 rfl) rfl rfl ?_
    refine x_iald (lM_36 h) (x_at tdX12_goDay 88 rfl) H.1 ?_
    have H := H.2
    refine x_if_ne 191 (x_at tdX12_goDay 89 rfl) rfl (fun c => ?_) (fun c => ?_)
    · have H := H.1 c
      refine x_weak (lv' := [(0, .ref (x_ad (gM h) 0)), (2, .int x2), (3, .int x3)]) ⟨rfl, rfl, rfl, trivial⟩ ?_
      exact H
    · have H := H.2 c
      refine x_aload_n (x_at tdX12_goDay 90 rfl) rfl rfl ?_
      refine gfM_0_44 (x_at tdX12_goDay 91 rfl) wf_X12_99 ?_
      refine x_iload_n (x_at tdX12_goDay 92 rfl) rfl rfl ?_
      refine x_iald (lM_29 h) (x_at tdX12_goDay 93 rfl) H.1 ?_
      have H := H.2
      refine x_aload_n (x_at tdX12_goDay 94 rfl) rfl rfl ?_
      refine gfM_0_73 (x_at tdX12_goDay 95 rfl) wf_X12_475 ?_
      refine x_ic_ge 191 (x_at tdX12_goDay 96 rfl) rfl (fun c => ?_) (fun c => ?_)
      · have H := H.1 c
        refine x_weak (lv' := [(0, .ref (x_ad (gM h) 0)), (2, .int x2), (3, .int x3)]) ⟨rfl, rfl, rfl, trivial⟩ ?_
        exact H
      · have H := H.2 c
        refine x_aload_n (x_at tdX12_goDay 97 rfl) rfl rfl ?_
        refine gfM_0_71 (x_at tdX12_goDay 98 rfl) wf_X12_124 ?_
        refine x_iload_n (x_at tdX12_goDay 99 rfl) rfl rfl ?_
        refine x_aload_n (x_at tdX12_goDay 100 rfl) rfl rfl ?_
        refine gfM_0_48 (x_at tdX12_goDay 101 rfl) wf_X12_112 ?_
        refine x_iload_n (x_at tdX12_goDay 102 rfl) rfl rfl ?_
        refine x_zald (lM_33 h) (x_at tdX12_goDay 103 rfl) H.1 ?_
        have H := H.2
        refine x_if_eq 189 (x_at tdX12_goDay 104 rfl) rfl (fun c => ?_) (fun c => ?_)
        · have H := H.1 c
          refine x_iconst (x_at tdX12_goDay 107 rfl) k_c_1 ?_
          refine x_weak (lv' := [(0, .ref (x_ad (gM h) 0)), (2, .int x2), (3, .int x3)]) ⟨rfl, rfl, rfl, trivial⟩ ?_
          exact H
        · have H := H.2 c
          refine x_iconst (x_at tdX12_goDay 105 rfl) k_c_3 ?_
          refine x_goto 190 (x_at tdX12_goDay 106 rfl) rfl ?_
          refine x_weak (lv' := [(0, .ref (x_ad (gM h) 0)), (2, .int x2), (3, .int x3)]) ⟨rfl, rfl, rfl, trivial⟩ ?_
          exact H
theorem b_M_goDay_190 {h : xH} {d : Nat}  {x2 : Int32} {x3 : Int32} {s0 : Int32} {s1 : Int32} {S : xSt} {K : Int32 → xSt → Prop}  (H : (vp_in s1 10 ∧ B_M_goDay_191 h d x2 x3 (x_putI S 36 (s1 : Int32).toNatClampNeg s0) K)) : B_M_goDay_190 h d x2 x3 s0 s1 S K := by
  unfold B_M_goDay_190
  refine x_iast (lM_36 h) (x_at tdX12_goDay 108 rfl) H.1 ?_
  have H := H.2
  refine x_weak (lv' := [(0, .ref (x_ad (gM h) 0)), (2, .int x2), (3, .int x3)]) ⟨rfl, rfl, rfl, trivial⟩ ?_
  exact H
theorem b_M_goDay_191 {h : xH} {d : Nat}  {x2 : Int32} {x3 : Int32} {S : xSt} {K : Int32 → xSt → Prop}  (H : B_M_goDay_141 h d x2 (x3 + 1) S K) : B_M_goDay_191 h d x2 x3 S K := by
  unfold B_M_goDay_191
  refine x_iinc (x_at tdX12_goDay 109 rfl) rfl (k_inc_1 _) (by decide) ?_
  refine x_goto 141 (x_at tdX12_goDay 110 rfl) rfl ?_
  refine x_weak (lv' := [(0, .ref (x_ad (gM h) 0)), (2, .int x2), (3, .int (x3 + 1))]) ⟨rfl, rfl, rfl, trivial⟩ ?_
  exact H
theorem e_M_load {h : xH} {d : Nat}  {S : xSt} {K : xSt → Prop}  (H : B_M_load_2 h d 0 S K) : M_M_load h d S K := by
  refine x_enter pn_X12 (Nat.le_of_ble_eq_true rfl) ?_
  show X (gM h) _ _ 0 [(0, .ref (x_ad (gM h) 0))] [] S _
  refine x_iconst (x_at tdX12_load 0 rfl) k_c_0 ?_
  refine x_istore_n (x_at tdX12_load 1 rfl) rfl (by decide) ?_
  refine x_weak (lv' := [(0, .ref (x_ad (gM h) 0)), (1, .int 0)]) ⟨rfl, rfl, trivial⟩ ?_
  exact H
theorem b_M_load_2 {h : xH} {d : Nat}  {x1 : Int32} {S : xSt} {K : xSt → Prop}  (H : ((10 ≤ x1 → K (x_putI (x_putI S 0 73 (S.1 34 20)) 0 74 (S.1 34 21))) ∧ (¬ 10 ≤ x1 → (vp_in x1 24 ∧ (vp_in x1 10 ∧ (vp_in ((10 : Int32) + x1) 24 ∧ (vp_in x1 10 ∧ B_M_load_2 h d (x1 + 1) (x_putI (x_putI S 36 (x1 : Int32).toNatClampNeg (S.1 34 (x1 : Int32).toNatClampNeg)) 37 (x1 : Int32).toNatClampNeg (S.1 34 (((10 : Int32) + x1) : Int32).toNatClampNeg)) K))))))) : B_M_load_2 h d x1 S K := by
  unfold B_M_load_2
  refine x_iload_n (x_at tdX12_load 2 rfl) rfl rfl ?_
  refine x_bipush (x_at tdX12_load 3 rfl) k_b_10 ?_
  refine x_ic_ge 41 (x_at tdX12_load 4 rfl) rfl (fun c => ?_) (fun c => ?_)
  · have H := H.1 c
    refine x_aload_n (x_at tdX12_load 25 rfl) rfl rfl ?_
    refine x_aload_n (x_at tdX12_load 26 rfl) rfl rfl ?_
    refine gfM_0_67 (x_at tdX12_load 27 rfl) wf_X12_118 ?_
    refine x_bipush (x_at tdX12_load 28 rfl) k_b_20 ?_
    refine x_iald (lM_34 h) (x_at tdX12_load 29 rfl) vi_20_24 ?_
    refine x_top (v := (S.1 34 20)) rfl ?_
    refine pfM_0_73 (x_at tdX12_load 30 rfl) wf_X12_475 ?_
    refine x_aload_n (x_at tdX12_load 31 rfl) rfl rfl ?_
    refine x_aload_n (x_at tdX12_load 32 rfl) rfl rfl ?_
    refine gfM_0_67 (x_at tdX12_load 33 rfl) wf_X12_118 ?_
    refine x_bipush (x_at tdX12_load 34 rfl) k_b_21 ?_
    refine x_iald (lM_34 h) (x_at tdX12_load 35 rfl) vi_21_24 ?_
    refine x_top (v := (S.1 34 21)) rfl ?_
    refine pfM_0_74 (x_at tdX12_load 36 rfl) wf_X12_478 ?_
    exact x_return rfl (x_at tdX12_load 37 rfl) ⟨rfl, H⟩
  · have H := H.2 c
    refine x_aload_n (x_at tdX12_load 5 rfl) rfl rfl ?_
    refine gfM_0_71 (x_at tdX12_load 6 rfl) wf_X12_124 ?_
    refine x_iload_n (x_at tdX12_load 7 rfl) rfl rfl ?_
    refine x_aload_n (x_at tdX12_load 8 rfl) rfl rfl ?_
    refine gfM_0_67 (x_at tdX12_load 9 rfl) wf_X12_118 ?_
    refine x_iload_n (x_at tdX12_load 10 rfl) rfl rfl ?_
    refine x_iald (lM_34 h) (x_at tdX12_load 11 rfl) H.1 ?_
    have H := H.2
    refine x_iast (lM_36 h) (x_at tdX12_load 12 rfl) H.1 ?_
    have H := H.2
    refine x_aload_n (x_at tdX12_load 13 rfl) rfl rfl ?_
    refine gfM_0_72 (x_at tdX12_load 14 rfl) wf_X12_127 ?_
    refine x_iload_n (x_at tdX12_load 15 rfl) rfl rfl ?_
    refine x_aload_n (x_at tdX12_load 16 rfl) rfl rfl ?_
    refine gfM_0_67 (x_at tdX12_load 17 rfl) wf_X12_118 ?_
    refine x_bipush (x_at tdX12_load 18 rfl) k_b_10 ?_
    refine x_iload_n (x_at tdX12_load 19 rfl) rfl rfl ?_
    refine x_iadd (x_at tdX12_load 20 rfl) ?_
    refine x_iald (lM_34 h) (x_at tdX12_load 21 rfl) H.1 ?_
    have H := H.2
    refine x_top (v := (S.1 34 (((10 : Int32) + x1) : Int32).toNatClampNeg)) rfl ?_
    refine x_iast (lM_37 h) (x_at tdX12_load 22 rfl) H.1 ?_
    have H := H.2
    refine x_iinc (x_at tdX12_load 23 rfl) rfl (k_inc_1 _) (by decide) ?_
    refine x_goto 2 (x_at tdX12_load 24 rfl) rfl ?_
    refine x_weak (lv' := [(0, .ref (x_ad (gM h) 0)), (1, .int (x1 + 1))]) ⟨rfl, rfl, trivial⟩ ?_
    exact H
theorem e_M_day {h : xH} {d : Nat}  {S : xSt} {K : Int32 → xSt → Prop}  (H : ((¬ (S.1 34 20) = 99 → M_M_act h (d + 3) S (fun (S1 : xSt) => M_M_load h (d + 3) S1 (fun (S2 : xSt) => M_M_goDay h d S2 (fun (r3 : Int32) (S3 : xSt) => B_M_day_29 h d r3 0 S3 K)))) ∧ ((S.1 34 20) = 99 → K (-1) S))) : M_M_day h d S K := by
  refine x_enter pn_X12 (Nat.le_of_ble_eq_true rfl) ?_
  show X (gM h) _ _ 0 [(0, .ref (x_ad (gM h) 0))] [] S _
  refine x_aload_n (x_at tdX12_day 0 rfl) rfl rfl ?_
  refine gfM_0_67 (x_at tdX12_day 1 rfl) wf_X12_118 ?_
  refine x_bipush (x_at tdX12_day 2 rfl) k_b_20 ?_
  refine x_iald (lM_34 h) (x_at tdX12_day 3 rfl) vi_20_24 ?_
  refine x_top (v := (S.1 34 20)) rfl ?_
  refine x_bipush (x_at tdX12_day 4 rfl) k_b_99 ?_
  refine x_ic_ne 14 (x_at tdX12_day 5 rfl) rfl (fun c => ?_) (fun c => ?_)
  · have H := H.1 c
    refine x_aload_n (x_at tdX12_day 8 rfl) rfl rfl ?_
    refine x_cVv (as := []) (rest := []) mi_X12_act vc_12 (lM_0 h) (x_at tdX12_day 9 rfl) wm_X12_472 rfl (Nat.le_of_ble_eq_true rfl) rfl H (fun S1 H => ?_)
    refine x_aload_n (x_at tdX12_day 10 rfl) rfl rfl ?_
    refine x_cVv (as := []) (rest := []) mi_X12_load vc_12 (lM_0 h) (x_at tdX12_day 11 rfl) wm_X12_485 rfl (Nat.le_of_ble_eq_true rfl) rfl H (fun S2 H => ?_)
    refine x_aload_n (x_at tdX12_day 12 rfl) rfl rfl ?_
    refine x_cVi (as := []) (rest := []) mi_X12_goDay vc_12 (lM_0 h) (x_at tdX12_day 13 rfl) wm_X12_488 rfl (Nat.le_of_ble_eq_true rfl) rfl H (fun r3 S3 H => ?_)
    refine x_istore_n (x_at tdX12_day 14 rfl) rfl (by decide) ?_
    refine x_iconst (x_at tdX12_day 15 rfl) k_c_0 ?_
    refine x_istore_n (x_at tdX12_day 16 rfl) rfl (by decide) ?_
    refine x_weak (lv' := [(0, .ref (x_ad (gM h) 0)), (1, .int r3), (2, .int 0)]) ⟨rfl, rfl, rfl, trivial⟩ ?_
    exact H
  · have H := H.2 c
    refine x_iconst (x_at tdX12_day 6 rfl) k_c_m1 ?_
    exact x_ireturn (ty := .int) rfl rfl (x_at tdX12_day 7 rfl) ⟨_, rfl, H⟩
theorem b_M_day_29 {h : xH} {d : Nat}  {x1 : Int32} {x2 : Int32} {S : xSt} {K : Int32 → xSt → Prop}  (H : ((10 ≤ x2 → K x1 (x_putI (x_putI S 34 20 (S.1 0 73)) 34 21 (S.1 0 74))) ∧ (¬ 10 ≤ x2 → (vp_in x2 10 ∧ (vp_in x2 24 ∧ (vp_in x2 10 ∧ (vp_in ((10 : Int32) + x2) 24 ∧ B_M_day_29 h d x1 (x2 + 1) (x_putI (x_putI S 34 (x2 : Int32).toNatClampNeg (S.1 36 (x2 : Int32).toNatClampNeg)) 34 (((10 : Int32) + x2) : Int32).toNatClampNeg (S.1 37 (x2 : Int32).toNatClampNeg)) K))))))) : B_M_day_29 h d x1 x2 S K := by
  unfold B_M_day_29
  refine x_iload_n (x_at tdX12_day 17 rfl) rfl rfl ?_
  refine x_bipush (x_at tdX12_day 18 rfl) k_b_10 ?_
  refine x_ic_ge 68 (x_at tdX12_day 19 rfl) rfl (fun c => ?_) (fun c => ?_)
  · have H := H.1 c
    refine x_aload_n (x_at tdX12_day 40 rfl) rfl rfl ?_
    refine gfM_0_67 (x_at tdX12_day 41 rfl) wf_X12_118 ?_
    refine x_bipush (x_at tdX12_day 42 rfl) k_b_20 ?_
    refine x_aload_n (x_at tdX12_day 43 rfl) rfl rfl ?_
    refine gfM_0_73 (x_at tdX12_day 44 rfl) wf_X12_475 ?_
    refine x_iast (lM_34 h) (x_at tdX12_day 45 rfl) vi_20_24 ?_
    refine x_aload_n (x_at tdX12_day 46 rfl) rfl rfl ?_
    refine gfM_0_67 (x_at tdX12_day 47 rfl) wf_X12_118 ?_
    refine x_bipush (x_at tdX12_day 48 rfl) k_b_21 ?_
    refine x_aload_n (x_at tdX12_day 49 rfl) rfl rfl ?_
    refine gfM_0_74 (x_at tdX12_day 50 rfl) wf_X12_478 ?_
    refine x_top (v := (S.1 0 74)) rfl ?_
    refine x_iast (lM_34 h) (x_at tdX12_day 51 rfl) vi_21_24 ?_
    refine x_iload_n (x_at tdX12_day 52 rfl) rfl rfl ?_
    exact x_ireturn (ty := .int) rfl rfl (x_at tdX12_day 53 rfl) ⟨_, rfl, H⟩
  · have H := H.2 c
    refine x_aload_n (x_at tdX12_day 20 rfl) rfl rfl ?_
    refine gfM_0_67 (x_at tdX12_day 21 rfl) wf_X12_118 ?_
    refine x_iload_n (x_at tdX12_day 22 rfl) rfl rfl ?_
    refine x_aload_n (x_at tdX12_day 23 rfl) rfl rfl ?_
    refine gfM_0_71 (x_at tdX12_day 24 rfl) wf_X12_124 ?_
    refine x_iload_n (x_at tdX12_day 25 rfl) rfl rfl ?_
    refine x_iald (lM_36 h) (x_at tdX12_day 26 rfl) H.1 ?_
    have H := H.2
    refine x_iast (lM_34 h) (x_at tdX12_day 27 rfl) H.1 ?_
    have H := H.2
    refine x_aload_n (x_at tdX12_day 28 rfl) rfl rfl ?_
    refine gfM_0_67 (x_at tdX12_day 29 rfl) wf_X12_118 ?_
    refine x_bipush (x_at tdX12_day 30 rfl) k_b_10 ?_
    refine x_iload_n (x_at tdX12_day 31 rfl) rfl rfl ?_
    refine x_iadd (x_at tdX12_day 32 rfl) ?_
    refine x_aload_n (x_at tdX12_day 33 rfl) rfl rfl ?_
    refine gfM_0_72 (x_at tdX12_day 34 rfl) wf_X12_127 ?_
    refine x_iload_n (x_at tdX12_day 35 rfl) rfl rfl ?_
    refine x_iald (lM_37 h) (x_at tdX12_day 36 rfl) H.1 ?_
    have H := H.2
    refine x_top (v := (S.1 37 (x2 : Int32).toNatClampNeg)) rfl ?_
    refine x_iast (lM_34 h) (x_at tdX12_day 37 rfl) H.1 ?_
    have H := H.2
    refine x_iinc (x_at tdX12_day 38 rfl) rfl (k_inc_1 _) (by decide) ?_
    refine x_goto 29 (x_at tdX12_day 39 rfl) rfl ?_
    refine x_weak (lv' := [(0, .ref (x_ad (gM h) 0)), (1, .int x1), (2, .int (x2 + 1))]) ⟨rfl, rfl, rfl, trivial⟩ ?_
    exact H
theorem e_M_exchange {h : xH} {d : Nat} {x1 : Int32} {S : xSt} {K : xSt → Prop}  (H : B_M_exchange_2 h d x1 0 S K) : M_M_exchange h d x1 S K := by
  refine x_enter pn_X12 (Nat.le_of_ble_eq_true rfl) ?_
  show X (gM h) _ _ 0 [(0, .ref (x_ad (gM h) 0)), (1, .int x1)] [] S _
  refine x_iconst (x_at tdX12_exchange 0 rfl) k_c_0 ?_
  refine x_istore_n (x_at tdX12_exchange 1 rfl) rfl (by decide) ?_
  refine x_weak (lv' := [(0, .ref (x_ad (gM h) 0)), (1, .int x1), (2, .int 0)]) ⟨rfl, rfl, rfl, trivial⟩ ?_
  exact H
theorem b_M_exchange_2 {h : xH} {d : Nat}  {x1 : Int32} {x2 : Int32} {S : xSt} {K : xSt → Prop}  (H : ((23 ≤ x2 → K S) ∧ (¬ 23 ≤ x2 → (vp_in (x1 + x2) 960 ∧ (vp_in x2 24 ∧ (vp_in (x1 + x2) 960 ∧ (vp_in x2 24 ∧ B_M_exchange_2 h d x1 (x2 + 1) (x_putI (x_putI S 35 ((x1 + x2) : Int32).toNatClampNeg (S.1 34 (x2 : Int32).toNatClampNeg)) 34 (x2 : Int32).toNatClampNeg (S.1 35 ((x1 + x2) : Int32).toNatClampNeg)) K))))))) : B_M_exchange_2 h d x1 x2 S K := by
  unfold B_M_exchange_2
  refine x_iload_n (x_at tdX12_exchange 2 rfl) rfl rfl ?_
  refine x_bipush (x_at tdX12_exchange 3 rfl) k_b_23 ?_
  refine x_ic_ge 44 (x_at tdX12_exchange 4 rfl) rfl (fun c => ?_) (fun c => ?_)
  · have H := H.1 c
    exact x_return rfl (x_at tdX12_exchange 29 rfl) ⟨rfl, H⟩
  · have H := H.2 c
    refine x_aload_n (x_at tdX12_exchange 5 rfl) rfl rfl ?_
    refine gfM_0_68 (x_at tdX12_exchange 6 rfl) wf_X12_121 ?_
    refine x_iload_n (x_at tdX12_exchange 7 rfl) rfl rfl ?_
    refine x_iload_n (x_at tdX12_exchange 8 rfl) rfl rfl ?_
    refine x_iadd (x_at tdX12_exchange 9 rfl) ?_
    refine x_iald (lM_35 h) (x_at tdX12_exchange 10 rfl) H.1 ?_
    have H := H.2
    refine x_istore_n (x_at tdX12_exchange 11 rfl) rfl (by decide) ?_
    refine x_aload_n (x_at tdX12_exchange 12 rfl) rfl rfl ?_
    refine gfM_0_68 (x_at tdX12_exchange 13 rfl) wf_X12_121 ?_
    refine x_iload_n (x_at tdX12_exchange 14 rfl) rfl rfl ?_
    refine x_iload_n (x_at tdX12_exchange 15 rfl) rfl rfl ?_
    refine x_iadd (x_at tdX12_exchange 16 rfl) ?_
    refine x_aload_n (x_at tdX12_exchange 17 rfl) rfl rfl ?_
    refine gfM_0_67 (x_at tdX12_exchange 18 rfl) wf_X12_118 ?_
    refine x_iload_n (x_at tdX12_exchange 19 rfl) rfl rfl ?_
    refine x_iald (lM_34 h) (x_at tdX12_exchange 20 rfl) H.1 ?_
    have H := H.2
    refine x_iast (lM_35 h) (x_at tdX12_exchange 21 rfl) H.1 ?_
    have H := H.2
    refine x_aload_n (x_at tdX12_exchange 22 rfl) rfl rfl ?_
    refine gfM_0_67 (x_at tdX12_exchange 23 rfl) wf_X12_118 ?_
    refine x_iload_n (x_at tdX12_exchange 24 rfl) rfl rfl ?_
    refine x_iload_n (x_at tdX12_exchange 25 rfl) rfl rfl ?_
    refine x_iast (lM_34 h) (x_at tdX12_exchange 26 rfl) H.1 ?_
    have H := H.2
    refine x_iinc (x_at tdX12_exchange 27 rfl) rfl (k_inc_1 _) (by decide) ?_
    refine x_goto 2 (x_at tdX12_exchange 28 rfl) rfl ?_
    refine x_weak (lv' := [(0, .ref (x_ad (gM h) 0)), (1, .int x1), (2, .int (x2 + 1))]) ⟨rfl, rfl, rfl, trivial⟩ ?_
    exact H
theorem e_M_undo {h : xH} {d : Nat}  {S : xSt} {K : Int32 → xSt → Prop}  (H : ((¬ (S.1 0 69) = 0 → M_M_exchange h d ((24 : Int32) * ((S.1 0 69) - (1 : Int32))) (x_putI (x_putI S 0 69 ((S.1 0 69) - (1 : Int32))) 0 70 ((S.1 0 70) + (1 : Int32))) (fun (S1 : xSt) => K 1 S1)) ∧ ((S.1 0 69) = 0 → K 0 S))) : M_M_undo h d S K := by
  refine x_enter pn_X12 (Nat.le_of_ble_eq_true rfl) ?_
  show X (gM h) _ _ 0 [(0, .ref (x_ad (gM h) 0))] [] S _
  refine x_aload_n (x_at tdX12_undo 0 rfl) rfl rfl ?_
  refine gfM_0_69 (x_at tdX12_undo 1 rfl) wf_X12_441 ?_
  refine x_if_ne 9 (x_at tdX12_undo 2 rfl) rfl (fun c => ?_) (fun c => ?_)
  · have H := H.1 c
    refine x_aload_n (x_at tdX12_undo 5 rfl) rfl rfl ?_
    refine x_dup (x_at tdX12_undo 6 rfl) rfl ?_
    refine gfM_0_69 (x_at tdX12_undo 7 rfl) wf_X12_441 ?_
    refine x_iconst (x_at tdX12_undo 8 rfl) k_c_1 ?_
    refine x_isub (x_at tdX12_undo 9 rfl) ?_
    refine pfM_0_69 (x_at tdX12_undo 10 rfl) wf_X12_441 ?_
    refine x_aload_n (x_at tdX12_undo 11 rfl) rfl rfl ?_
    refine x_dup (x_at tdX12_undo 12 rfl) rfl ?_
    refine gfM_0_70 (x_at tdX12_undo 13 rfl) wf_X12_444 ?_
    refine x_top (v := (S.1 0 70)) rfl ?_
    refine x_iconst (x_at tdX12_undo 14 rfl) k_c_1 ?_
    refine x_iadd (x_at tdX12_undo 15 rfl) ?_
    refine pfM_0_70 (x_at tdX12_undo 16 rfl) wf_X12_444 ?_
    refine x_aload_n (x_at tdX12_undo 17 rfl) rfl rfl ?_
    refine x_bipush (x_at tdX12_undo 18 rfl) k_b_24 ?_
    refine x_aload_n (x_at tdX12_undo 19 rfl) rfl rfl ?_
    refine gfM_0_69 (x_at tdX12_undo 20 rfl) wf_X12_441 ?_
    refine x_top (v := ((S.1 0 69) - (1 : Int32))) rfl ?_
    refine x_imul (x_at tdX12_undo 21 rfl) ?_
    refine x_cVv (as := [.int ((24 : Int32) * ((S.1 0 69) - (1 : Int32)))]) (rest := []) mi_X12_exchange vc_12 (lM_0 h) (x_at tdX12_undo 22 rfl) wm_X12_491 rfl (Nat.le_of_ble_eq_true rfl) rfl H (fun S1 H => ?_)
    refine x_iconst (x_at tdX12_undo 23 rfl) k_c_1 ?_
    exact x_ireturn (ty := .boolean) rfl zb1.1 (x_at tdX12_undo 24 rfl) ⟨_, rfl, H⟩
  · have H := H.2 c
    refine x_iconst (x_at tdX12_undo 3 rfl) k_c_0 ?_
    exact x_ireturn (ty := .boolean) rfl zb0.1 (x_at tdX12_undo 4 rfl) ⟨_, rfl, H⟩
theorem e_M_redo {h : xH} {d : Nat}  {S : xSt} {K : Int32 → xSt → Prop}  (H : ((¬ (S.1 0 70) = 0 → M_M_exchange h d ((24 : Int32) * (S.1 0 69)) S (fun (S1 : xSt) => K 1 (x_putI (x_putI S1 0 69 ((S1.1 0 69) + (1 : Int32))) 0 70 ((S1.1 0 70) - (1 : Int32))))) ∧ ((S.1 0 70) = 0 → K 0 S))) : M_M_redo h d S K := by
  refine x_enter pn_X12 (Nat.le_of_ble_eq_true rfl) ?_
  show X (gM h) _ _ 0 [(0, .ref (x_ad (gM h) 0))] [] S _
  refine x_aload_n (x_at tdX12_redo 0 rfl) rfl rfl ?_
  refine gfM_0_70 (x_at tdX12_redo 1 rfl) wf_X12_444 ?_
  refine x_if_ne 9 (x_at tdX12_redo 2 rfl) rfl (fun c => ?_) (fun c => ?_)
  · have H := H.1 c
    refine x_aload_n (x_at tdX12_redo 5 rfl) rfl rfl ?_
    refine x_bipush (x_at tdX12_redo 6 rfl) k_b_24 ?_
    refine x_aload_n (x_at tdX12_redo 7 rfl) rfl rfl ?_
    refine gfM_0_69 (x_at tdX12_redo 8 rfl) wf_X12_441 ?_
    refine x_imul (x_at tdX12_redo 9 rfl) ?_
    refine x_cVv (as := [.int ((24 : Int32) * (S.1 0 69))]) (rest := []) mi_X12_exchange vc_12 (lM_0 h) (x_at tdX12_redo 10 rfl) wm_X12_491 rfl (Nat.le_of_ble_eq_true rfl) rfl H (fun S1 H => ?_)
    refine x_aload_n (x_at tdX12_redo 11 rfl) rfl rfl ?_
    refine x_dup (x_at tdX12_redo 12 rfl) rfl ?_
    refine gfM_0_69 (x_at tdX12_redo 13 rfl) wf_X12_441 ?_
    refine x_iconst (x_at tdX12_redo 14 rfl) k_c_1 ?_
    refine x_iadd (x_at tdX12_redo 15 rfl) ?_
    refine pfM_0_69 (x_at tdX12_redo 16 rfl) wf_X12_441 ?_
    refine x_aload_n (x_at tdX12_redo 17 rfl) rfl rfl ?_
    refine x_dup (x_at tdX12_redo 18 rfl) rfl ?_
    refine gfM_0_70 (x_at tdX12_redo 19 rfl) wf_X12_444 ?_
    refine x_top (v := (S1.1 0 70)) rfl ?_
    refine x_iconst (x_at tdX12_redo 20 rfl) k_c_1 ?_
    refine x_isub (x_at tdX12_redo 21 rfl) ?_
    refine pfM_0_70 (x_at tdX12_redo 22 rfl) wf_X12_444 ?_
    refine x_iconst (x_at tdX12_redo 23 rfl) k_c_1 ?_
    exact x_ireturn (ty := .boolean) rfl zb1.1 (x_at tdX12_redo 24 rfl) ⟨_, rfl, H⟩
  · have H := H.2 c
    refine x_iconst (x_at tdX12_redo 3 rfl) k_c_0 ?_
    exact x_ireturn (ty := .boolean) rfl zb0.1 (x_at tdX12_redo 4 rfl) ⟨_, rfl, H⟩
theorem e_M_beginOrder {h : xH} {d : Nat}  {S : xSt} {K : xSt → Prop}  (H : K (x_putI (x_putI (x_putI S 0 79 0) 39 0 0) 40 0 0)) : M_M_beginOrder h d S K := by
  refine x_enter pn_X12 (Nat.le_of_ble_eq_true rfl) ?_
  show X (gM h) _ _ 0 [(0, .ref (x_ad (gM h) 0))] [] S _
  refine x_aload_n (x_at tdX12_beginOrder 0 rfl) rfl rfl ?_
  refine x_iconst (x_at tdX12_beginOrder 1 rfl) k_c_0 ?_
  refine pfM_0_79 (x_at tdX12_beginOrder 2 rfl) wf_X12_497 ?_
  refine x_aload_n (x_at tdX12_beginOrder 3 rfl) rfl rfl ?_
  refine gfM_0_76 (x_at tdX12_beginOrder 4 rfl) wf_X12_133 ?_
  refine x_iconst (x_at tdX12_beginOrder 5 rfl) k_c_0 ?_
  refine x_iconst (x_at tdX12_beginOrder 6 rfl) k_c_0 ?_
  refine x_iast (lM_39 h) (x_at tdX12_beginOrder 7 rfl) vi_0_7 ?_
  refine x_aload_n (x_at tdX12_beginOrder 8 rfl) rfl rfl ?_
  refine gfM_0_77 (x_at tdX12_beginOrder 9 rfl) wf_X12_136 ?_
  refine x_iconst (x_at tdX12_beginOrder 10 rfl) k_c_0 ?_
  refine x_iconst (x_at tdX12_beginOrder 11 rfl) k_c_0 ?_
  refine x_iast (lM_40 h) (x_at tdX12_beginOrder 12 rfl) vi_0_7 ?_
  exact x_return rfl (x_at tdX12_beginOrder 13 rfl) ⟨rfl, H⟩
theorem e_M_isAhead {h : xH} {d : Nat}  {S : xSt} {K : Int32 → xSt → Prop}  (H : B_M_isAhead_2 h d 0 S K) : M_M_isAhead h d S K := by
  refine x_enter pn_X12 (Nat.le_of_ble_eq_true rfl) ?_
  show X (gM h) _ _ 0 [(0, .ref (x_ad (gM h) 0))] [] S _
  refine x_iconst (x_at tdX12_isAhead 0 rfl) k_c_0 ?_
  refine x_istore_n (x_at tdX12_isAhead 1 rfl) rfl (by decide) ?_
  refine x_weak (lv' := [(0, .ref (x_ad (gM h) 0)), (1, .int 0)]) ⟨rfl, rfl, trivial⟩ ?_
  exact H
theorem b_M_isAhead_2 {h : xH} {d : Nat}  {x1 : Int32} {S : xSt} {K : Int32 → xSt → Prop}  (H : (((S.1 0 79) ≤ x1 → B_M_isAhead_39 h d x1 S K) ∧ (¬ (S.1 0 79) ≤ x1 → (((S.1 0 81) ≤ x1 → B_M_isAhead_39 h d x1 S K) ∧ (¬ (S.1 0 81) ≤ x1 → (vp_in x1 7 ∧ (vp_in x1 7 ∧ ((¬ (S.1 38 (x1 : Int32).toNatClampNeg) = (S.1 41 (x1 : Int32).toNatClampNeg) → B_M_isAhead_39 h d x1 S K) ∧ ((S.1 38 (x1 : Int32).toNatClampNeg) = (S.1 41 (x1 : Int32).toNatClampNeg) → B_M_isAhead_2 h d (x1 + 1) S K))))))))) : B_M_isAhead_2 h d x1 S K := by
  unfold B_M_isAhead_2
  refine x_iload_n (x_at tdX12_isAhead 2 rfl) rfl rfl ?_
  refine x_aload_n (x_at tdX12_isAhead 3 rfl) rfl rfl ?_
  refine gfM_0_79 (x_at tdX12_isAhead 4 rfl) wf_X12_497 ?_
  refine x_ic_ge 39 (x_at tdX12_isAhead 5 rfl) rfl (fun c => ?_) (fun c => ?_)
  · have H := H.1 c
    refine x_weak (lv' := [(0, .ref (x_ad (gM h) 0)), (1, .int x1)]) ⟨rfl, rfl, trivial⟩ ?_
    exact H
  · have H := H.2 c
    refine x_iload_n (x_at tdX12_isAhead 6 rfl) rfl rfl ?_
    refine x_aload_n (x_at tdX12_isAhead 7 rfl) rfl rfl ?_
    refine gfM_0_81 (x_at tdX12_isAhead 8 rfl) wf_X12_513 ?_
    refine x_ic_ge 39 (x_at tdX12_isAhead 9 rfl) rfl (fun c => ?_) (fun c => ?_)
    · have H := H.1 c
      refine x_weak (lv' := [(0, .ref (x_ad (gM h) 0)), (1, .int x1)]) ⟨rfl, rfl, trivial⟩ ?_
      exact H
    · have H := H.2 c
      refine x_aload_n (x_at tdX12_isAhead 10 rfl) rfl rfl ?_
      refine gfM_0_75 (x_at tdX12_isAhead 11 rfl) wf_X12_130 ?_
      refine x_iload_n (x_at tdX12_isAhead 12 rfl) rfl rfl ?_
      refine x_iald (lM_38 h) (x_at tdX12_isAhead 13 rfl) H.1 ?_
      have H := H.2
      refine x_aload_n (x_at tdX12_isAhead 14 rfl) rfl rfl ?_
      refine gfM_0_78 (x_at tdX12_isAhead 15 rfl) wf_X12_139 ?_
      refine x_iload_n (x_at tdX12_isAhead 16 rfl) rfl rfl ?_
      refine x_iald (lM_41 h) (x_at tdX12_isAhead 17 rfl) H.1 ?_
      have H := H.2
      refine x_ic_ne 39 (x_at tdX12_isAhead 18 rfl) rfl (fun c => ?_) (fun c => ?_)
      · have H := H.1 c
        refine x_weak (lv' := [(0, .ref (x_ad (gM h) 0)), (1, .int x1)]) ⟨rfl, rfl, trivial⟩ ?_
        exact H
      · have H := H.2 c
        refine x_iinc (x_at tdX12_isAhead 19 rfl) rfl (k_inc_1 _) (by decide) ?_
        refine x_goto 2 (x_at tdX12_isAhead 20 rfl) rfl ?_
        refine x_weak (lv' := [(0, .ref (x_ad (gM h) 0)), (1, .int (x1 + 1))]) ⟨rfl, rfl, trivial⟩ ?_
        exact H
theorem b_M_isAhead_39 {h : xH} {d : Nat}  {x1 : Int32} {S : xSt} {K : Int32 → xSt → Prop}  (H : (((S.1 0 81) ≤ x1 → K 0 S) ∧ (¬ (S.1 0 81) ≤ x1 → ((x1 = (S.1 0 79) → K 1 S) ∧ (¬ x1 = (S.1 0 79) → (vp_in x1 7 ∧ (vp_in x1 7 ∧ (((S.1 41 (x1 : Int32).toNatClampNeg) ≤ (S.1 38 (x1 : Int32).toNatClampNeg) → K 0 S) ∧ (¬ (S.1 41 (x1 : Int32).toNatClampNeg) ≤ (S.1 38 (x1 : Int32).toNatClampNeg) → K 1 S))))))))) : B_M_isAhead_39 h d x1 S K := by
  unfold B_M_isAhead_39
  refine x_iload_n (x_at tdX12_isAhead 21 rfl) rfl rfl ?_
  refine x_aload_n (x_at tdX12_isAhead 22 rfl) rfl rfl ?_
  refine gfM_0_81 (x_at tdX12_isAhead 23 rfl) wf_X12_513 ?_
  refine x_ic_ge 74 (x_at tdX12_isAhead 24 rfl) rfl (fun c => ?_) (fun c => ?_)
  · have H := H.1 c
    refine x_iconst (x_at tdX12_isAhead 40 rfl) k_c_0 ?_
    exact x_ireturn (ty := .boolean) rfl zb0.1 (x_at tdX12_isAhead 41 rfl) ⟨_, rfl, H⟩
  · have H := H.2 c
    refine x_iload_n (x_at tdX12_isAhead 25 rfl) rfl rfl ?_
    refine x_aload_n (x_at tdX12_isAhead 26 rfl) rfl rfl ?_
    refine gfM_0_79 (x_at tdX12_isAhead 27 rfl) wf_X12_497 ?_
    refine x_ic_eq 70 (x_at tdX12_isAhead 28 rfl) rfl (fun c => ?_) (fun c => ?_)
    · have H := H.1 c
      refine x_iconst (x_at tdX12_isAhead 38 rfl) k_c_1 ?_
      refine x_goto 75 (x_at tdX12_isAhead 39 rfl) rfl ?_
      exact x_ireturn (ty := .boolean) rfl zb1.1 (x_at tdX12_isAhead 41 rfl) ⟨_, rfl, H⟩
    · have H := H.2 c
      refine x_aload_n (x_at tdX12_isAhead 29 rfl) rfl rfl ?_
      refine gfM_0_75 (x_at tdX12_isAhead 30 rfl) wf_X12_130 ?_
      refine x_iload_n (x_at tdX12_isAhead 31 rfl) rfl rfl ?_
      refine x_iald (lM_38 h) (x_at tdX12_isAhead 32 rfl) H.1 ?_
      have H := H.2
      refine x_aload_n (x_at tdX12_isAhead 33 rfl) rfl rfl ?_
      refine gfM_0_78 (x_at tdX12_isAhead 34 rfl) wf_X12_139 ?_
      refine x_iload_n (x_at tdX12_isAhead 35 rfl) rfl rfl ?_
      refine x_iald (lM_41 h) (x_at tdX12_isAhead 36 rfl) H.1 ?_
      have H := H.2
      refine x_ic_ge 74 (x_at tdX12_isAhead 37 rfl) rfl (fun c => ?_) (fun c => ?_)
      · have H := H.1 c
        refine x_iconst (x_at tdX12_isAhead 40 rfl) k_c_0 ?_
        exact x_ireturn (ty := .boolean) rfl zb0.1 (x_at tdX12_isAhead 41 rfl) ⟨_, rfl, H⟩
      · have H := H.2 c
        refine x_iconst (x_at tdX12_isAhead 38 rfl) k_c_1 ?_
        refine x_goto 75 (x_at tdX12_isAhead 39 rfl) rfl ?_
        exact x_ireturn (ty := .boolean) rfl zb1.1 (x_at tdX12_isAhead 41 rfl) ⟨_, rfl, H⟩
theorem e_M_members {h : xH} {d : Nat} {x0 : Int32} {S : xSt} {K : Int32 → xSt → Prop}  (H : B_M_members_4 h d x0 0 0 S K) : M_M_members h d x0 S K := by
  refine x_enter pn_X12 (Nat.le_of_ble_eq_true rfl) ?_
  show X (gM h) _ _ 0 [(0, .int x0)] [] S _
  refine x_iconst (x_at tdX12_members 0 rfl) k_c_0 ?_
  refine x_istore_n (x_at tdX12_members 1 rfl) rfl (by decide) ?_
  refine x_iconst (x_at tdX12_members 2 rfl) k_c_0 ?_
  refine x_istore_n (x_at tdX12_members 3 rfl) rfl (by decide) ?_
  refine x_weak (lv' := [(0, .int x0), (1, .int 0), (2, .int 0)]) ⟨rfl, rfl, rfl, trivial⟩ ?_
  exact H
theorem b_M_members_4 {h : xH} {d : Nat}  {x0 : Int32} {x1 : Int32} {x2 : Int32} {S : xSt} {K : Int32 → xSt → Prop}  (H : ((10 ≤ x2 → K x1 S) ∧ (¬ 10 ≤ x2 → B_M_members_4 h d x0 (x1 + ((x0 >>> (x2 &&& 31)) &&& (1 : Int32))) (x2 + 1) S K))) : B_M_members_4 h d x0 x1 x2 S K := by
  unfold B_M_members_4
  refine x_iload_n (x_at tdX12_members 4 rfl) rfl rfl ?_
  refine x_bipush (x_at tdX12_members 5 rfl) k_b_10 ?_
  refine x_ic_ge 24 (x_at tdX12_members 6 rfl) rfl (fun c => ?_) (fun c => ?_)
  · have H := H.1 c
    refine x_iload_n (x_at tdX12_members 17 rfl) rfl rfl ?_
    exact x_ireturn (ty := .int) rfl rfl (x_at tdX12_members 18 rfl) ⟨_, rfl, H⟩
  · have H := H.2 c
    refine x_iload_n (x_at tdX12_members 7 rfl) rfl rfl ?_
    refine x_iload_n (x_at tdX12_members 8 rfl) rfl rfl ?_
    refine x_iload_n (x_at tdX12_members 9 rfl) rfl rfl ?_
    refine x_ishr (x_at tdX12_members 10 rfl) ?_
    refine x_iconst (x_at tdX12_members 11 rfl) k_c_1 ?_
    refine x_iand (x_at tdX12_members 12 rfl) ?_
    refine x_iadd (x_at tdX12_members 13 rfl) ?_
    refine x_istore_n (x_at tdX12_members 14 rfl) rfl (by decide) ?_
    refine x_iinc (x_at tdX12_members 15 rfl) rfl (k_inc_1 _) (by decide) ?_
    refine x_goto 4 (x_at tdX12_members 16 rfl) rfl ?_
    refine x_weak (lv' := [(0, .int x0), (1, .int (x1 + ((x0 >>> (x2 &&& 31)) &&& (1 : Int32)))), (2, .int (x2 + 1))]) ⟨rfl, rfl, rfl, trivial⟩ ?_
    exact H
theorem e_M_isBetter {h : xH} {d : Nat}  {S : xSt} {K : Int32 → xSt → Prop}  (H : (vp_in (S.1 0 79) 7 ∧ M_M_members h d (S.1 40 ((S.1 0 79) : Int32).toNatClampNeg) S (fun (r1 : Int32) (S1 : xSt) => M_M_members h d (S1.1 0 83) S1 (fun (r2 : Int32) (S2 : xSt) => ((r1 = r2 → (vp_in (S2.1 0 79) 7 ∧ (((S2.1 39 ((S2.1 0 79) : Int32).toNatClampNeg) = (S2.1 0 82) → M_M_isAhead h d S2 (fun (r3 : Int32) (S3 : xSt) => (zb r3 ∧ K r3 S3))) ∧ (¬ (S2.1 39 ((S2.1 0 79) : Int32).toNatClampNeg) = (S2.1 0 82) → (vp_in (S2.1 0 79) 7 ∧ (((S2.1 0 82) ≤ (S2.1 39 ((S2.1 0 79) : Int32).toNatClampNeg) → K 0 S2) ∧ (¬ (S2.1 0 82) ≤ (S2.1 39 ((S2.1 0 79) : Int32).toNatClampNeg) → K 1 S2))))))) ∧ (¬ r1 = r2 → ((r1 ≤ r2 → K 0 S2) ∧ (¬ r1 ≤ r2 → K 1 S2)))))))) : M_M_isBetter h d S K := by
  refine x_enter pn_X12 (Nat.le_of_ble_eq_true rfl) ?_
  show X (gM h) _ _ 0 [(0, .ref (x_ad (gM h) 0))] [] S _
  refine x_aload_n (x_at tdX12_isBetter 0 rfl) rfl rfl ?_
  refine gfM_0_77 (x_at tdX12_isBetter 1 rfl) wf_X12_136 ?_
  refine x_aload_n (x_at tdX12_isBetter 2 rfl) rfl rfl ?_
  refine gfM_0_79 (x_at tdX12_isBetter 3 rfl) wf_X12_497 ?_
  refine x_iald (lM_40 h) (x_at tdX12_isBetter 4 rfl) H.1 ?_
  have H := H.2
  refine x_cSi (as := [.int (S.1 40 ((S.1 0 79) : Int32).toNatClampNeg)]) (rest := []) mi_X12_members (x_at tdX12_isBetter 5 rfl) wm_X12_516 rfl (Nat.le_of_ble_eq_true rfl) rfl H (fun r1 S1 H => ?_)
  refine x_istore_n (x_at tdX12_isBetter 6 rfl) rfl (by decide) ?_
  refine x_aload_n (x_at tdX12_isBetter 7 rfl) rfl rfl ?_
  refine gfM_0_83 (x_at tdX12_isBetter 8 rfl) wf_X12_519 ?_
  refine x_cSi (as := [.int (S1.1 0 83)]) (rest := []) mi_X12_members (x_at tdX12_isBetter 9 rfl) wm_X12_516 rfl (Nat.le_of_ble_eq_true rfl) rfl H (fun r2 S2 H => ?_)
  refine x_istore_n (x_at tdX12_isBetter 10 rfl) rfl (by decide) ?_
  refine x_iload_n (x_at tdX12_isBetter 11 rfl) rfl rfl ?_
  refine x_iload_n (x_at tdX12_isBetter 12 rfl) rfl rfl ?_
  refine x_ic_eq 37 (x_at tdX12_isBetter 13 rfl) rfl (fun c => ?_) (fun c => ?_)
  · have H := H.1 c
    refine x_aload_n (x_at tdX12_isBetter 21 rfl) rfl rfl ?_
    refine gfM_0_76 (x_at tdX12_isBetter 22 rfl) wf_X12_133 ?_
    refine x_aload_n (x_at tdX12_isBetter 23 rfl) rfl rfl ?_
    refine gfM_0_79 (x_at tdX12_isBetter 24 rfl) wf_X12_497 ?_
    refine x_iald (lM_39 h) (x_at tdX12_isBetter 25 rfl) H.1 ?_
    have H := H.2
    refine x_aload_n (x_at tdX12_isBetter 26 rfl) rfl rfl ?_
    refine gfM_0_82 (x_at tdX12_isBetter 27 rfl) wf_X12_522 ?_
    refine x_ic_eq 77 (x_at tdX12_isBetter 28 rfl) rfl (fun c => ?_) (fun c => ?_)
    · have H := H.1 c
      refine x_aload_n (x_at tdX12_isBetter 41 rfl) rfl rfl ?_
      refine x_cVi (as := []) (rest := []) mi_X12_isAhead vc_12 (lM_0 h) (x_at tdX12_isBetter 42 rfl) wm_X12_525 rfl (Nat.le_of_ble_eq_true rfl) rfl H (fun r3 S3 H => ?_)
      exact x_ireturn (ty := .boolean) rfl H.1.1 (x_at tdX12_isBetter 43 rfl) ⟨_, rfl, H.2⟩
    · have H := H.2 c
      refine x_aload_n (x_at tdX12_isBetter 29 rfl) rfl rfl ?_
      refine gfM_0_76 (x_at tdX12_isBetter 30 rfl) wf_X12_133 ?_
      refine x_aload_n (x_at tdX12_isBetter 31 rfl) rfl rfl ?_
      refine gfM_0_79 (x_at tdX12_isBetter 32 rfl) wf_X12_497 ?_
      refine x_iald (lM_39 h) (x_at tdX12_isBetter 33 rfl) H.1 ?_
      have H := H.2
      refine x_aload_n (x_at tdX12_isBetter 34 rfl) rfl rfl ?_
      refine gfM_0_82 (x_at tdX12_isBetter 35 rfl) wf_X12_522 ?_
      refine x_ic_ge 73 (x_at tdX12_isBetter 36 rfl) rfl (fun c => ?_) (fun c => ?_)
      · have H := H.1 c
        refine x_iconst (x_at tdX12_isBetter 39 rfl) k_c_0 ?_
        refine x_goto 81 (x_at tdX12_isBetter 40 rfl) rfl ?_
        exact x_ireturn (ty := .boolean) rfl zb0.1 (x_at tdX12_isBetter 43 rfl) ⟨_, rfl, H⟩
      · have H := H.2 c
        refine x_iconst (x_at tdX12_isBetter 37 rfl) k_c_1 ?_
        refine x_goto 81 (x_at tdX12_isBetter 38 rfl) rfl ?_
        exact x_ireturn (ty := .boolean) rfl zb1.1 (x_at tdX12_isBetter 43 rfl) ⟨_, rfl, H⟩
  · have H := H.2 c
    refine x_iload_n (x_at tdX12_isBetter 14 rfl) rfl rfl ?_
    refine x_iload_n (x_at tdX12_isBetter 15 rfl) rfl rfl ?_
    refine x_ic_le 35 (x_at tdX12_isBetter 16 rfl) rfl (fun c => ?_) (fun c => ?_)
    · have H := H.1 c
      refine x_iconst (x_at tdX12_isBetter 19 rfl) k_c_0 ?_
      exact x_ireturn (ty := .boolean) rfl zb0.1 (x_at tdX12_isBetter 20 rfl) ⟨_, rfl, H⟩
    · have H := H.2 c
      refine x_iconst (x_at tdX12_isBetter 17 rfl) k_c_1 ?_
      refine x_goto 36 (x_at tdX12_isBetter 18 rfl) rfl ?_
      exact x_ireturn (ty := .boolean) rfl zb1.1 (x_at tdX12_isBetter 20 rfl) ⟨_, rfl, H⟩
theorem e_M_doneOn {h : xH} {d : Nat} {x1 : Int32} {S : xSt} {K : Int32 → xSt → Prop}  (H : (¬ (S.1 0 60) = 0 ∧ K ((S.1 0 80) + ((x1 - (1 : Int32)) / (S.1 0 60))) S)) : M_M_doneOn h d x1 S K := by
  refine x_enter pn_X12 (Nat.le_of_ble_eq_true rfl) ?_
  show X (gM h) _ _ 0 [(0, .ref (x_ad (gM h) 0)), (1, .int x1)] [] S _
  refine x_aload_n (x_at tdX12_doneOn 0 rfl) rfl rfl ?_
  refine gfM_0_80 (x_at tdX12_doneOn 1 rfl) wf_X12_494 ?_
  refine x_iload_n (x_at tdX12_doneOn 2 rfl) rfl rfl ?_
  refine x_iconst (x_at tdX12_doneOn 3 rfl) k_c_1 ?_
  refine x_isub (x_at tdX12_doneOn 4 rfl) ?_
  refine x_aload_n (x_at tdX12_doneOn 5 rfl) rfl rfl ?_
  refine gfM_0_60 (x_at tdX12_doneOn 6 rfl) wf_X12_115 ?_
  refine x_idiv (x_at tdX12_doneOn 7 rfl) H.1 ?_
  have H := H.2
  refine x_iadd (x_at tdX12_doneOn 8 rfl) ?_
  exact x_ireturn (ty := .int) rfl rfl (x_at tdX12_doneOn 9 rfl) ⟨_, rfl, H⟩
theorem e_M_isForbidden {h : xH} {d : Nat} {x1 : Int32} {x2 : Int32} {x3 : Int32} {S : xSt} {K : Int32 → xSt → Prop}  (H : B_M_isForbidden_6 h d x1 x2 x3 0 0 S K) : M_M_isForbidden h d x1 x2 x3 S K := by
  refine x_enter pn_X12 (Nat.le_of_ble_eq_true rfl) ?_
  show X (gM h) _ _ 0 [(0, .ref (x_ad (gM h) 0)), (1, .int x1), (2, .int x2), (3, .int x3)] [] S _
  refine x_iconst (x_at tdX12_isForbidden 0 rfl) k_c_0 ?_
  refine x_istore (x_at tdX12_isForbidden 1 rfl) (by decide) ?_
  refine x_iconst (x_at tdX12_isForbidden 2 rfl) k_c_0 ?_
  refine x_istore (x_at tdX12_isForbidden 3 rfl) (by decide) ?_
  refine x_weak (lv' := [(0, .ref (x_ad (gM h) 0)), (1, .int x1), (2, .int x2), (3, .int x3), (4, .int 0), (5, .int 0)]) ⟨rfl, rfl, rfl, rfl, rfl, rfl, trivial⟩ ?_
  exact H
theorem b_M_isForbidden_6 {h : xH} {d : Nat}  {x1 : Int32} {x2 : Int32} {x3 : Int32} {x4 : Int32} {x5 : Int32} {S : xSt} {K : Int32 → xSt → Prop}  (H : (((S.1 0 58) ≤ x5 → (zb x4 ∧ K x4 S)) ∧ (¬ (S.1 0 58) ≤ x5 → ((¬ x4 = 0 → B_M_isForbidden_72 h d x1 x2 x3 x5 S K) ∧ (x4 = 0 → M_M_isOn h d x5 S (fun (r1 : Int32) (S1 : xSt) => ((r1 = 0 → B_M_isForbidden_76 h d x1 x2 x3 x5 S1 K) ∧ (¬ r1 = 0 → (vp_in x5 10 ∧ ((¬ (S1.1 26 (x5 : Int32).toNatClampNeg) = x1 → B_M_isForbidden_76 h d x1 x2 x3 x5 S1 K) ∧ ((S1.1 26 (x5 : Int32).toNatClampNeg) = x1 → (vp_in x5 10 ∧ ((¬ (S1.1 28 (x5 : Int32).toNatClampNeg) = x2 → B_M_isForbidden_76 h d x1 x2 x3 x5 S1 K) ∧ ((S1.1 28 (x5 : Int32).toNatClampNeg) = x2 → (vp_in x5 10 ∧ ((¬ (S1.1 33 (x5 : Int32).toNatClampNeg) = 0 → B_M_isForbidden_76 h d x1 x2 x3 x5 S1 K) ∧ ((S1.1 33 (x5 : Int32).toNatClampNeg) = 0 → (vp_in x5 10 ∧ (((S1.1 29 (x5 : Int32).toNatClampNeg) < x3 → B_M_isForbidden_76 h d x1 x2 x3 x5 S1 K) ∧ (¬ (S1.1 29 (x5 : Int32).toNatClampNeg) < x3 → B_M_isForbidden_72 h d x1 x2 x3 x5 S1 K)))))))))))))))))))) : B_M_isForbidden_6 h d x1 x2 x3 x4 x5 S K := by
  unfold B_M_isForbidden_6
  refine x_iload (x_at tdX12_isForbidden 4 rfl) rfl ?_
  refine x_aload_n (x_at tdX12_isForbidden 5 rfl) rfl rfl ?_
  refine gfM_0_58 (x_at tdX12_isForbidden 6 rfl) wf_X12_429 ?_
  refine x_ic_ge 85 (x_at tdX12_isForbidden 7 rfl) rfl (fun c => ?_) (fun c => ?_)
  · have H := H.1 c
    refine x_iload (x_at tdX12_isForbidden 43 rfl) rfl ?_
    exact x_ireturn (ty := .boolean) rfl H.1.1 (x_at tdX12_isForbidden 44 rfl) ⟨_, rfl, H.2⟩
  · have H := H.2 c
    refine x_iload (x_at tdX12_isForbidden 8 rfl) rfl ?_
    refine x_if_ne 72 (x_at tdX12_isForbidden 9 rfl) rfl (fun c => ?_) (fun c => ?_)
    · have H := H.1 c
      refine x_weak (lv' := [(0, .ref (x_ad (gM h) 0)), (1, .int x1), (2, .int x2), (3, .int x3), (5, .int x5)]) ⟨rfl, rfl, rfl, rfl, rfl, trivial⟩ ?_
      exact H
    · have H := H.2 c
      refine x_aload_n (x_at tdX12_isForbidden 10 rfl) rfl rfl ?_
      refine x_iload (x_at tdX12_isForbidden 11 rfl) rfl ?_
      refine x_cVi (as := [.int x5]) (rest := []) mi_X12_isOn vc_12 (lM_0 h) (x_at tdX12_isForbidden 12 rfl) wm_X12_469 rfl (Nat.le_of_ble_eq_true rfl) rfl H (fun r1 S1 H => ?_)
      refine x_if_eq 76 (x_at tdX12_isForbidden 13 rfl) rfl (fun c => ?_) (fun c => ?_)
      · have H := H.1 c
        refine x_weak (lv' := [(0, .ref (x_ad (gM h) 0)), (1, .int x1), (2, .int x2), (3, .int x3), (5, .int x5)]) ⟨rfl, rfl, rfl, rfl, rfl, trivial⟩ ?_
        exact H
      · have H := H.2 c
        refine x_aload_n (x_at tdX12_isForbidden 14 rfl) rfl rfl ?_
        refine gfM_0_41 (x_at tdX12_isForbidden 15 rfl) wf_X12_90 ?_
        refine x_iload (x_at tdX12_isForbidden 16 rfl) rfl ?_
        refine x_iald (lM_26 h) (x_at tdX12_isForbidden 17 rfl) H.1 ?_
        have H := H.2
        refine x_iload_n (x_at tdX12_isForbidden 18 rfl) rfl rfl ?_
        refine x_ic_ne 76 (x_at tdX12_isForbidden 19 rfl) rfl (fun c => ?_) (fun c => ?_)
        · have H := H.1 c
          refine x_weak (lv' := [(0, .ref (x_ad (gM h) 0)), (1, .int x1), (2, .int x2), (3, .int x3), (5, .int x5)]) ⟨rfl, rfl, rfl, rfl, rfl, trivial⟩ ?_
          exact H
        · have H := H.2 c
          refine x_aload_n (x_at tdX12_isForbidden 20 rfl) rfl rfl ?_
          refine gfM_0_43 (x_at tdX12_isForbidden 21 rfl) wf_X12_96 ?_
          refine x_iload (x_at tdX12_isForbidden 22 rfl) rfl ?_
          refine x_iald (lM_28 h) (x_at tdX12_isForbidden 23 rfl) H.1 ?_
          have H := H.2
          refine x_iload_n (x_at tdX12_isForbidden 24 rfl) rfl rfl ?_
          refine x_ic_ne 76 (x_at tdX12_isForbidden 25 rfl) rfl (fun c => ?_) (fun c => ?_)
          · have H := H.1 c
            refine x_weak (lv' := [(0, .ref (x_ad (gM h) 0)), (1, .int x1), (2, .int x2), (3, .int x3), (5, .int x5)]) ⟨rfl, rfl, rfl, rfl, rfl, trivial⟩ ?_
            exact H
          · have H := H.2 c
            refine x_aload_n (x_at tdX12_isForbidden 26 rfl) rfl rfl ?_
            refine gfM_0_48 (x_at tdX12_isForbidden 27 rfl) wf_X12_112 ?_
            refine x_iload (x_at tdX12_isForbidden 28 rfl) rfl ?_
            refine x_zald (lM_33 h) (x_at tdX12_isForbidden 29 rfl) H.1 ?_
            have H := H.2
            refine x_if_ne 76 (x_at tdX12_isForbidden 30 rfl) rfl (fun c => ?_) (fun c => ?_)
            · have H := H.1 c
              refine x_weak (lv' := [(0, .ref (x_ad (gM h) 0)), (1, .int x1), (2, .int x2), (3, .int x3), (5, .int x5)]) ⟨rfl, rfl, rfl, rfl, rfl, trivial⟩ ?_
              exact H
            · have H := H.2 c
              refine x_aload_n (x_at tdX12_isForbidden 31 rfl) rfl rfl ?_
              refine gfM_0_44 (x_at tdX12_isForbidden 32 rfl) wf_X12_99 ?_
              refine x_iload (x_at tdX12_isForbidden 33 rfl) rfl ?_
              refine x_iald (lM_29 h) (x_at tdX12_isForbidden 34 rfl) H.1 ?_
              have H := H.2
              refine x_iload_n (x_at tdX12_isForbidden 35 rfl) rfl rfl ?_
              refine x_ic_lt 76 (x_at tdX12_isForbidden 36 rfl) rfl (fun c => ?_) (fun c => ?_)
              · have H := H.1 c
                refine x_weak (lv' := [(0, .ref (x_ad (gM h) 0)), (1, .int x1), (2, .int x2), (3, .int x3), (5, .int x5)]) ⟨rfl, rfl, rfl, rfl, rfl, trivial⟩ ?_
                exact H
              · have H := H.2 c
                refine x_weak (lv' := [(0, .ref (x_ad (gM h) 0)), (1, .int x1), (2, .int x2), (3, .int x3), (5, .int x5)]) ⟨rfl, rfl, rfl, rfl, rfl, trivial⟩ ?_
                exact H
theorem b_M_isForbidden_72 {h : xH} {d : Nat}  {x1 : Int32} {x2 : Int32} {x3 : Int32} {x5 : Int32} {S : xSt} {K : Int32 → xSt → Prop}  (H : B_M_isForbidden_77 h d x1 x2 x3 x5 1 S K) : B_M_isForbidden_72 h d x1 x2 x3 x5 S K := by
  unfold B_M_isForbidden_72
  refine x_iconst (x_at tdX12_isForbidden 37 rfl) k_c_1 ?_
  refine x_goto 77 (x_at tdX12_isForbidden 38 rfl) rfl ?_
  refine x_weak (lv' := [(0, .ref (x_ad (gM h) 0)), (1, .int x1), (2, .int x2), (3, .int x3), (5, .int x5)]) ⟨rfl, rfl, rfl, rfl, rfl, trivial⟩ ?_
  exact H
theorem b_M_isForbidden_76 {h : xH} {d : Nat}  {x1 : Int32} {x2 : Int32} {x3 : Int32} {x5 : Int32} {S : xSt} {K : Int32 → xSt → Prop}  (H : B_M_isForbidden_77 h d x1 x2 x3 x5 0 S K) : B_M_isForbidden_76 h d x1 x2 x3 x5 S K := by
  unfold B_M_isForbidden_76
  refine x_iconst (x_at tdX12_isForbidden 39 rfl) k_c_0 ?_
  refine x_weak (lv' := [(0, .ref (x_ad (gM h) 0)), (1, .int x1), (2, .int x2), (3, .int x3), (5, .int x5)]) ⟨rfl, rfl, rfl, rfl, rfl, trivial⟩ ?_
  exact H
theorem b_M_isForbidden_77 {h : xH} {d : Nat}  {x1 : Int32} {x2 : Int32} {x3 : Int32} {x5 : Int32} {s0 : Int32} {S : xSt} {K : Int32 → xSt → Prop}  (H : B_M_isForbidden_6 h d x1 x2 x3 s0 (x5 + 1) S K) : B_M_isForbidden_77 h d x1 x2 x3 x5 s0 S K := by
  unfold B_M_isForbidden_77
  refine x_istore (x_at tdX12_isForbidden 40 rfl) (by decide) ?_
  refine x_iinc (x_at tdX12_isForbidden 41 rfl) rfl (k_inc_1 _) (by decide) ?_
  refine x_goto 6 (x_at tdX12_isForbidden 42 rfl) rfl ?_
  refine x_weak (lv' := [(0, .ref (x_ad (gM h) 0)), (1, .int x1), (2, .int x2), (3, .int x3), (4, .int s0), (5, .int (x5 + 1))]) ⟨rfl, rfl, rfl, rfl, rfl, rfl, trivial⟩ ?_
  exact H
theorem e_M_keptOf {h : xH} {d : Nat} {x1 : Int32} {x2 : Int32} {x3 : Int32} {S : xSt} {K : Int32 → xSt → Prop}  (H : B_M_keptOf_6 h d x1 x2 x3 0 0 S K) : M_M_keptOf h d x1 x2 x3 S K := by
  refine x_enter pn_X12 (Nat.le_of_ble_eq_true rfl) ?_
  show X (gM h) _ _ 0 [(0, .ref (x_ad (gM h) 0)), (1, .int x1), (2, .int x2), (3, .int x3)] [] S _
  refine x_iconst (x_at tdX12_keptOf 0 rfl) k_c_0 ?_
  refine x_istore (x_at tdX12_keptOf 1 rfl) (by decide) ?_
  refine x_iconst (x_at tdX12_keptOf 2 rfl) k_c_0 ?_
  refine x_istore (x_at tdX12_keptOf 3 rfl) (by decide) ?_
  refine x_weak (lv' := [(0, .ref (x_ad (gM h) 0)), (1, .int x1), (2, .int x2), (3, .int x3), (4, .int 0), (5, .int 0)]) ⟨rfl, rfl, rfl, rfl, rfl, rfl, trivial⟩ ?_
  exact H
theorem b_M_keptOf_6 {h : xH} {d : Nat}  {x1 : Int32} {x2 : Int32} {x3 : Int32} {x4 : Int32} {x5 : Int32} {S : xSt} {K : Int32 → xSt → Prop}  (H : (((S.1 0 58) ≤ x5 → K x4 S) ∧ (¬ (S.1 0 58) ≤ x5 → M_M_isOn h d x5 S (fun (r1 : Int32) (S1 : xSt) => ((r1 = 0 → B_M_keptOf_73 h d x1 x2 x3 x5 x4 S1 K) ∧ (¬ r1 = 0 → (vp_in x5 10 ∧ ((¬ (S1.1 26 (x5 : Int32).toNatClampNeg) = x1 → B_M_keptOf_73 h d x1 x2 x3 x5 x4 S1 K) ∧ ((S1.1 26 (x5 : Int32).toNatClampNeg) = x1 → (vp_in x5 10 ∧ ((¬ (S1.1 28 (x5 : Int32).toNatClampNeg) = x2 → B_M_keptOf_73 h d x1 x2 x3 x5 x4 S1 K) ∧ ((S1.1 28 (x5 : Int32).toNatClampNeg) = x2 → (vp_in x5 10 ∧ (((S1.1 33 (x5 : Int32).toNatClampNeg) = 0 → B_M_keptOf_73 h d x1 x2 x3 x5 x4 S1 K) ∧ (¬ (S1.1 33 (x5 : Int32).toNatClampNeg) = 0 → (vp_in x5 10 ∧ (((S1.1 29 (x5 : Int32).toNatClampNeg) < x3 → B_M_keptOf_73 h d x1 x2 x3 x5 x4 S1 K) ∧ (¬ (S1.1 29 (x5 : Int32).toNatClampNeg) < x3 → B_M_keptOf_74 h d x1 x2 x3 x5 1 x4 S1 K)))))))))))))))))) : B_M_keptOf_6 h d x1 x2 x3 x4 x5 S K := by
  unfold B_M_keptOf_6
  refine x_iload (x_at tdX12_keptOf 4 rfl) rfl ?_
  refine x_aload_n (x_at tdX12_keptOf 5 rfl) rfl rfl ?_
  refine gfM_0_58 (x_at tdX12_keptOf 6 rfl) wf_X12_429 ?_
  refine x_ic_ge 89 (x_at tdX12_keptOf 7 rfl) rfl (fun c => ?_) (fun c => ?_)
  · have H := H.1 c
    refine x_iload (x_at tdX12_keptOf 46 rfl) rfl ?_
    exact x_ireturn (ty := .int) rfl rfl (x_at tdX12_keptOf 47 rfl) ⟨_, rfl, H⟩
  · have H := H.2 c
    refine x_iload (x_at tdX12_keptOf 8 rfl) rfl ?_
    refine x_aload_n (x_at tdX12_keptOf 9 rfl) rfl rfl ?_
    refine x_iload (x_at tdX12_keptOf 10 rfl) rfl ?_
    refine x_cVi (as := [.int x5]) (rest := [.int x4]) mi_X12_isOn vc_12 (lM_0 h) (x_at tdX12_keptOf 11 rfl) wm_X12_469 rfl (Nat.le_of_ble_eq_true rfl) rfl H (fun r1 S1 H => ?_)
    refine x_if_eq 73 (x_at tdX12_keptOf 12 rfl) rfl (fun c => ?_) (fun c => ?_)
    · have H := H.1 c
      refine x_weak (lv' := [(0, .ref (x_ad (gM h) 0)), (1, .int x1), (2, .int x2), (3, .int x3), (5, .int x5)]) ⟨rfl, rfl, rfl, rfl, rfl, trivial⟩ ?_
      exact H
    · have H := H.2 c
      refine x_aload_n (x_at tdX12_keptOf 13 rfl) rfl rfl ?_
      refine gfM_0_41 (x_at tdX12_keptOf 14 rfl) wf_X12_90 ?_
      refine x_iload (x_at tdX12_keptOf 15 rfl) rfl ?_
      refine x_iald (lM_26 h) (x_at tdX12_keptOf 16 rfl) H.1 ?_
      have H := H.2
      refine x_iload_n (x_at tdX12_keptOf 17 rfl) rfl rfl ?_
      refine x_ic_ne 73 (x_at tdX12_keptOf 18 rfl) rfl (fun c => ?_) (fun c => ?_)
      · have H := H.1 c
        refine x_weak (lv' := [(0, .ref (x_ad (gM h) 0)), (1, .int x1), (2, .int x2), (3, .int x3), (5, .int x5)]) ⟨rfl, rfl, rfl, rfl, rfl, trivial⟩ ?_
        exact H
      · have H := H.2 c
        refine x_aload_n (x_at tdX12_keptOf 19 rfl) rfl rfl ?_
        refine gfM_0_43 (x_at tdX12_keptOf 20 rfl) wf_X12_96 ?_
        refine x_iload (x_at tdX12_keptOf 21 rfl) rfl ?_
        refine x_iald (lM_28 h) (x_at tdX12_keptOf 22 rfl) H.1 ?_
        have H := H.2
        refine x_iload_n (x_at tdX12_keptOf 23 rfl) rfl rfl ?_
        refine x_ic_ne 73 (x_at tdX12_keptOf 24 rfl) rfl (fun c => ?_) (fun c => ?_)
        · have H := H.1 c
          refine x_weak (lv' := [(0, .ref (x_ad (gM h) 0)), (1, .int x1), (2, .int x2), (3, .int x3), (5, .int x5)]) ⟨rfl, rfl, rfl, rfl, rfl, trivial⟩ ?_
          exact H
        · have H := H.2 c
          refine x_aload_n (x_at tdX12_keptOf 25 rfl) rfl rfl ?_
          refine gfM_0_48 (x_at tdX12_keptOf 26 rfl) wf_X12_112 ?_
          refine x_iload (x_at tdX12_keptOf 27 rfl) rfl ?_
          refine x_zald (lM_33 h) (x_at tdX12_keptOf 28 rfl) H.1 ?_
          have H := H.2
          refine x_if_eq 73 (x_at tdX12_keptOf 29 rfl) rfl (fun c => ?_) (fun c => ?_)
          · have H := H.1 c
            refine x_weak (lv' := [(0, .ref (x_ad (gM h) 0)), (1, .int x1), (2, .int x2), (3, .int x3), (5, .int x5)]) ⟨rfl, rfl, rfl, rfl, rfl, trivial⟩ ?_
            exact H
          · have H := H.2 c
            refine x_aload_n (x_at tdX12_keptOf 30 rfl) rfl rfl ?_
            refine gfM_0_44 (x_at tdX12_keptOf 31 rfl) wf_X12_99 ?_
            refine x_iload (x_at tdX12_keptOf 32 rfl) rfl ?_
            refine x_iald (lM_29 h) (x_at tdX12_keptOf 33 rfl) H.1 ?_
            have H := H.2
            refine x_iload_n (x_at tdX12_keptOf 34 rfl) rfl rfl ?_
            refine x_ic_lt 73 (x_at tdX12_keptOf 35 rfl) rfl (fun c => ?_) (fun c => ?_)
            · have H := H.1 c
              refine x_weak (lv' := [(0, .ref (x_ad (gM h) 0)), (1, .int x1), (2, .int x2), (3, .int x3), (5, .int x5)]) ⟨rfl, rfl, rfl, rfl, rfl, trivial⟩ ?_
              exact H
            · have H := H.2 c
              refine x_iconst (x_at tdX12_keptOf 36 rfl) k_c_1 ?_
              refine x_goto 74 (x_at tdX12_keptOf 37 rfl) rfl ?_
              refine x_weak (lv' := [(0, .ref (x_ad (gM h) 0)), (1, .int x1), (2, .int x2), (3, .int x3), (5, .int x5)]) ⟨rfl, rfl, rfl, rfl, rfl, trivial⟩ ?_
              exact H
theorem b_M_keptOf_73 {h : xH} {d : Nat}  {x1 : Int32} {x2 : Int32} {x3 : Int32} {x5 : Int32} {s0 : Int32} {S : xSt} {K : Int32 → xSt → Prop}  (H : B_M_keptOf_74 h d x1 x2 x3 x5 0 s0 S K) : B_M_keptOf_73 h d x1 x2 x3 x5 s0 S K := by
  unfold B_M_keptOf_73
  refine x_iconst (x_at tdX12_keptOf 38 rfl) k_c_0 ?_
  refine x_weak (lv' := [(0, .ref (x_ad (gM h) 0)), (1, .int x1), (2, .int x2), (3, .int x3), (5, .int x5)]) ⟨rfl, rfl, rfl, rfl, rfl, trivial⟩ ?_
  exact H
theorem b_M_keptOf_74 {h : xH} {d : Nat}  {x1 : Int32} {x2 : Int32} {x3 : Int32} {x5 : Int32} {s0 : Int32} {s1 : Int32} {S : xSt} {K : Int32 → xSt → Prop}  (H : M_M_truth h d s0 S (fun (r1 : Int32) (S1 : xSt) => B_M_keptOf_6 h d x1 x2 x3 (s1 ||| (r1 <<< (x5 &&& 31))) (x5 + 1) S1 K)) : B_M_keptOf_74 h d x1 x2 x3 x5 s0 s1 S K := by
  unfold B_M_keptOf_74
  refine x_cSi (as := [.int s0]) (rest := [.int s1]) mi_X12_truth (x_at tdX12_keptOf 39 rfl) wm_X12_344 rfl (Nat.le_of_ble_eq_true rfl) rfl H (fun r1 S1 H => ?_)
  refine x_iload (x_at tdX12_keptOf 40 rfl) rfl ?_
  refine x_ishl (x_at tdX12_keptOf 41 rfl) ?_
  refine x_ior (x_at tdX12_keptOf 42 rfl) ?_
  refine x_istore (x_at tdX12_keptOf 43 rfl) (by decide) ?_
  refine x_iinc (x_at tdX12_keptOf 44 rfl) rfl (k_inc_1 _) (by decide) ?_
  refine x_goto 6 (x_at tdX12_keptOf 45 rfl) rfl ?_
  refine x_weak (lv' := [(0, .ref (x_ad (gM h) 0)), (1, .int x1), (2, .int x2), (3, .int x3), (4, .int (s1 ||| (r1 <<< (x5 &&& 31)))), (5, .int (x5 + 1))]) ⟨rfl, rfl, rfl, rfl, rfl, rfl, trivial⟩ ?_
  exact H
theorem e_M_canPut {h : xH} {d : Nat} {x1 : Int32} {x2 : Int32} {S : xSt} {K : Int32 → xSt → Prop}  (H : B_M_canPut_2 h d x1 x2 0 S K) : M_M_canPut h d x1 x2 S K := by
  refine x_enter pn_X12 (Nat.le_of_ble_eq_true rfl) ?_
  show X (gM h) _ _ 0 [(0, .ref (x_ad (gM h) 0)), (1, .int x1), (2, .int x2)] [] S _
  refine x_iconst (x_at tdX12_canPut 0 rfl) k_c_0 ?_
  refine x_istore_n (x_at tdX12_canPut 1 rfl) rfl (by decide) ?_
  refine x_weak (lv' := [(0, .ref (x_ad (gM h) 0)), (1, .int x1), (2, .int x2), (3, .int 0)]) ⟨rfl, rfl, rfl, rfl, trivial⟩ ?_
  exact H
theorem b_M_canPut_2 {h : xH} {d : Nat}  {x1 : Int32} {x2 : Int32} {x3 : Int32} {S : xSt} {K : Int32 → xSt → Prop}  (H : (((S.1 0 79) ≤ x3 → (vp_in (S.1 0 79) 7 ∧ (vp_in x2 6 ∧ M_M_doneOn h (d + 1) ((S.1 39 ((S.1 0 79) : Int32).toNatClampNeg) + (S.1 18 (x2 : Int32).toNatClampNeg)) S (fun (r1 : Int32) (S1 : xSt) => M_M_isForbidden h d x1 x2 r1 S1 (fun (r2 : Int32) (S2 : xSt) => ((r2 = 0 → (vp_in (S2.1 0 79) 7 ∧ (vp_in ((S2.1 0 79) + (1 : Int32)) 7 ∧ (vp_in (S2.1 0 79) 7 ∧ M_M_doneOn h (d + 1) ((S.1 39 ((S.1 0 79) : Int32).toNatClampNeg) + (S.1 18 (x2 : Int32).toNatClampNeg)) (x_putI (x_putI S2 38 ((S2.1 0 79) : Int32).toNatClampNeg x2) 39 (((S2.1 0 79) + (1 : Int32)) : Int32).toNatClampNeg ((S.1 39 ((S.1 0 79) : Int32).toNatClampNeg) + (S.1 18 (x2 : Int32).toNatClampNeg))) (fun (r3 : Int32) (S3 : xSt) => M_M_keptOf h d x1 x2 r3 S3 (fun (r4 : Int32) (S4 : xSt) => (vp_in ((S2.1 0 79) + (1 : Int32)) 7 ∧ K 1 (x_putI (x_putI S4 40 (((S2.1 0 79) + (1 : Int32)) : Int32).toNatClampNeg ((S2.1 40 ((S2.1 0 79) : Int32).toNatClampNeg) ||| r4)) 0 79 ((S4.1 0 79) + (1 : Int32)))))))))) ∧ (¬ r2 = 0 → K 0 S2))))))) ∧ (¬ (S.1 0 79) ≤ x3 → (vp_in x3 7 ∧ ((¬ (S.1 38 (x3 : Int32).toNatClampNeg) = x2 → B_M_canPut_2 h d x1 x2 (x3 + 1) S K) ∧ ((S.1 38 (x3 : Int32).toNatClampNeg) = x2 → K 0 S)))))) : B_M_canPut_2 h d x1 x2 x3 S K := by
  unfold B_M_canPut_2
  refine x_iload_n (x_at tdX12_canPut 2 rfl) rfl rfl ?_
  refine x_aload_n (x_at tdX12_canPut 3 rfl) rfl rfl ?_
  refine gfM_0_79 (x_at tdX12_canPut 4 rfl) wf_X12_497 ?_
  refine x_ic_ge 28 (x_at tdX12_canPut 5 rfl) rfl (fun c => ?_) (fun c => ?_)
  · have H := H.1 c
    refine x_aload_n (x_at tdX12_canPut 16 rfl) rfl rfl ?_
    refine gfM_0_76 (x_at tdX12_canPut 17 rfl) wf_X12_133 ?_
    refine x_aload_n (x_at tdX12_canPut 18 rfl) rfl rfl ?_
    refine gfM_0_79 (x_at tdX12_canPut 19 rfl) wf_X12_497 ?_
    refine x_iald (lM_39 h) (x_at tdX12_canPut 20 rfl) H.1 ?_
    have H := H.2
    refine x_aload_n (x_at tdX12_canPut 21 rfl) rfl rfl ?_
    refine gfM_0_33 (x_at tdX12_canPut 22 rfl) wf_X12_66 ?_
    refine x_iload_n (x_at tdX12_canPut 23 rfl) rfl rfl ?_
    refine x_iald (lM_18 h) (x_at tdX12_canPut 24 rfl) H.1 ?_
    have H := H.2
    refine x_iadd (x_at tdX12_canPut 25 rfl) ?_
    refine x_istore_n (x_at tdX12_canPut 26 rfl) rfl (by decide) ?_
    refine x_aload_n (x_at tdX12_canPut 27 rfl) rfl rfl ?_
    refine x_iload_n (x_at tdX12_canPut 28 rfl) rfl rfl ?_
    refine x_iload_n (x_at tdX12_canPut 29 rfl) rfl rfl ?_
    refine x_aload_n (x_at tdX12_canPut 30 rfl) rfl rfl ?_
    refine x_iload_n (x_at tdX12_canPut 31 rfl) rfl rfl ?_
    refine x_cVi (as := [.int ((S.1 39 ((S.1 0 79) : Int32).toNatClampNeg) + (S.1 18 (x2 : Int32).toNatClampNeg))]) (rest := [.int x2, .int x1, .ref (x_ad (gM h) 0)]) mi_X12_doneOn vc_12 (lM_0 h) (x_at tdX12_canPut 32 rfl) wm_X12_500 rfl (Nat.le_of_ble_eq_true rfl) rfl H (fun r1 S1 H => ?_)
    refine x_cVi (as := [.int x1, .int x2, .int r1]) (rest := []) mi_X12_isForbidden vc_12 (lM_0 h) (x_at tdX12_canPut 33 rfl) wm_X12_503 rfl (Nat.le_of_ble_eq_true rfl) rfl H (fun r2 S2 H => ?_)
    refine x_if_eq 61 (x_at tdX12_canPut 34 rfl) rfl (fun c => ?_) (fun c => ?_)
    · have H := H.1 c
      refine x_aload_n (x_at tdX12_canPut 37 rfl) rfl rfl ?_
      refine gfM_0_75 (x_at tdX12_canPut 38 rfl) wf_X12_130 ?_
      refine x_aload_n (x_at tdX12_canPut 39 rfl) rfl rfl ?_
      refine gfM_0_79 (x_at tdX12_canPut 40 rfl) wf_X12_497 ?_
      refine x_iload_n (x_at tdX12_canPut 41 rfl) rfl rfl ?_
      refine x_iast (lM_38 h) (x_at tdX12_canPut 42 rfl) H.1 ?_
      have H := H.2
      refine x_aload_n (x_at tdX12_canPut 43 rfl) rfl rfl ?_
      refine gfM_0_76 (x_at tdX12_canPut 44 rfl) wf_X12_133 ?_
      refine x_aload_n (x_at tdX12_canPut 45 rfl) rfl rfl ?_
      refine gfM_0_79 (x_at tdX12_canPut 46 rfl) wf_X12_497 ?_
      refine x_top (v := (S2.1 0 79)) rfl ?_
      refine x_iconst (x_at tdX12_canPut 47 rfl) k_c_1 ?_
      refine x_iadd (x_at tdX12_canPut 48 rfl) ?_
      refine x_iload_n (x_at tdX12_canPut 49 rfl) rfl rfl ?_
      refine x_iast (lM_39 h) (x_at tdX12_canPut 50 rfl) H.1 ?_
      have H := H.2
      refine x_aload_n (x_at tdX12_canPut 51 rfl) rfl rfl ?_
      refine gfM_0_77 (x_at tdX12_canPut 52 rfl) wf_X12_136 ?_
      refine x_aload_n (x_at tdX12_canPut 53 rfl) rfl rfl ?_
      refine gfM_0_79 (x_at tdX12_canPut 54 rfl) wf_X12_497 ?_
      refine x_top (v := (S2.1 0 79)) rfl ?_
      refine x_iconst (x_at tdX12_canPut 55 rfl) k_c_1 ?_
      refine x_iadd (x_at tdX12_canPut 56 rfl) ?_
      refine x_aload_n (x_at tdX12_canPut 57 rfl) rfl rfl ?_
      refine gfM_0_77 (x_at tdX12_canPut 58 rfl) wf_X12_136 ?_
      refine x_aload_n (x_at tdX12_canPut 59 rfl) rfl rfl ?_
      refine gfM_0_79 (x_at tdX12_canPut 60 rfl) wf_X12_497 ?_
      refine x_top (v := (S2.1 0 79)) rfl ?_
      refine x_iald (lM_40 h) (x_at tdX12_canPut 61 rfl) H.1 ?_
      have H := H.2
      refine x_top (v := (S2.1 40 ((S2.1 0 79) : Int32).toNatClampNeg)) rfl ?_
      refine x_aload_n (x_at tdX12_canPut 62 rfl) rfl rfl ?_
      refine x_iload_n (x_at tdX12_canPut 63 rfl) rfl rfl ?_
      refine x_iload_n (x_at tdX12_canPut 64 rfl) rfl rfl ?_
      refine x_aload_n (x_at tdX12_canPut 65 rfl) rfl rfl ?_
      refine x_iload_n (x_at tdX12_canPut 66 rfl) rfl rfl ?_
      refine x_cVi (as := [.int ((S.1 39 ((S.1 0 79) : Int32).toNatClampNeg) + (S.1 18 (x2 : Int32).toNatClampNeg))]) (rest := [.int x2, .int x1, .ref (x_ad (gM h) 0), .int (S2.1 40 ((S2.1 0 79) : Int32).toNatClampNeg), .int ((S2.1 0 79) + (1 : Int32)), .ref (x_ad (gM h) 40)]) mi_X12_doneOn vc_12 (lM_0 h) (x_at tdX12_canPut 67 rfl) wm_X12_500 rfl (Nat.le_of_ble_eq_true rfl) rfl H (fun r3 S3 H => ?_)
      refine x_cVi (as := [.int x1, .int x2, .int r3]) (rest := [.int (S2.1 40 ((S2.1 0 79) : Int32).toNatClampNeg), .int ((S2.1 0 79) + (1 : Int32)), .ref (x_ad (gM h) 40)]) mi_X12_keptOf vc_12 (lM_0 h) (x_at tdX12_canPut 68 rfl) wm_X12_506 rfl (Nat.le_of_ble_eq_true rfl) rfl H (fun r4 S4 H => ?_)
      refine x_ior (x_at tdX12_canPut 69 rfl) ?_
      refine x_iast (lM_40 h) (x_at tdX12_canPut 70 rfl) H.1 ?_
      have H := H.2
      refine x_aload_n (x_at tdX12_canPut 71 rfl) rfl rfl ?_
      refine x_dup (x_at tdX12_canPut 72 rfl) rfl ?_
      refine gfM_0_79 (x_at tdX12_canPut 73 rfl) wf_X12_497 ?_
      refine x_top (v := (S4.1 0 79)) rfl ?_
      refine x_iconst (x_at tdX12_canPut 74 rfl) k_c_1 ?_
      refine x_iadd (x_at tdX12_canPut 75 rfl) ?_
      refine pfM_0_79 (x_at tdX12_canPut 76 rfl) wf_X12_497 ?_
      refine x_iconst (x_at tdX12_canPut 77 rfl) k_c_1 ?_
      exact x_ireturn (ty := .boolean) rfl zb1.1 (x_at tdX12_canPut 78 rfl) ⟨_, rfl, H⟩
    · have H := H.2 c
      refine x_iconst (x_at tdX12_canPut 35 rfl) k_c_0 ?_
      exact x_ireturn (ty := .boolean) rfl zb0.1 (x_at tdX12_canPut 36 rfl) ⟨_, rfl, H⟩
  · have H := H.2 c
    refine x_aload_n (x_at tdX12_canPut 6 rfl) rfl rfl ?_
    refine gfM_0_75 (x_at tdX12_canPut 7 rfl) wf_X12_130 ?_
    refine x_iload_n (x_at tdX12_canPut 8 rfl) rfl rfl ?_
    refine x_iald (lM_38 h) (x_at tdX12_canPut 9 rfl) H.1 ?_
    have H := H.2
    refine x_iload_n (x_at tdX12_canPut 10 rfl) rfl rfl ?_
    refine x_ic_ne 22 (x_at tdX12_canPut 11 rfl) rfl (fun c => ?_) (fun c => ?_)
    · have H := H.1 c
      refine x_iinc (x_at tdX12_canPut 14 rfl) rfl (k_inc_1 _) (by decide) ?_
      refine x_goto 2 (x_at tdX12_canPut 15 rfl) rfl ?_
      refine x_weak (lv' := [(0, .ref (x_ad (gM h) 0)), (1, .int x1), (2, .int x2), (3, .int (x3 + 1))]) ⟨rfl, rfl, rfl, rfl, trivial⟩ ?_
      exact H
    · have H := H.2 c
      refine x_iconst (x_at tdX12_canPut 12 rfl) k_c_0 ?_
      exact x_ireturn (ty := .boolean) rfl zb0.1 (x_at tdX12_canPut 13 rfl) ⟨_, rfl, H⟩
theorem e_M_nextOrder {h : xH} {d : Nat} {x1 : Int32} {S : xSt} {K : Int32 → xSt → Prop}  (H : B_M_nextOrder_2 h d x1 0 S K) : M_M_nextOrder h d x1 S K := by
  refine x_enter pn_X12 (Nat.le_of_ble_eq_true rfl) ?_
  show X (gM h) _ _ 0 [(0, .ref (x_ad (gM h) 0)), (1, .int x1)] [] S _
  refine x_iconst (x_at tdX12_nextOrder 0 rfl) k_c_0 ?_
  refine x_istore_n (x_at tdX12_nextOrder 1 rfl) rfl (by decide) ?_
  refine x_weak (lv' := [(0, .ref (x_ad (gM h) 0)), (1, .int x1), (2, .int 0)]) ⟨rfl, rfl, rfl, trivial⟩ ?_
  exact H
theorem b_M_nextOrder_2 {h : xH} {d : Nat}  {x1 : Int32} {x2 : Int32} {S : xSt} {K : Int32 → xSt → Prop}  (H : (((S.1 0 57) ≤ x2 → B_M_nextOrder_27 h d x1 S K) ∧ (¬ (S.1 0 57) ≤ x2 → M_M_canPut h d x1 x2 S (fun (r1 : Int32) (S1 : xSt) => ((r1 = 0 → B_M_nextOrder_2 h d x1 (x2 + 1) S1 K) ∧ (¬ r1 = 0 → K 1 S1)))))) : B_M_nextOrder_2 h d x1 x2 S K := by
  unfold B_M_nextOrder_2
  refine x_iload_n (x_at tdX12_nextOrder 2 rfl) rfl rfl ?_
  refine x_aload_n (x_at tdX12_nextOrder 3 rfl) rfl rfl ?_
  refine gfM_0_57 (x_at tdX12_nextOrder 4 rfl) wf_X12_426 ?_
  refine x_ic_ge 27 (x_at tdX12_nextOrder 5 rfl) rfl (fun c => ?_) (fun c => ?_)
  · have H := H.1 c
    refine x_weak (lv' := [(0, .ref (x_ad (gM h) 0)), (1, .int x1)]) ⟨rfl, rfl, trivial⟩ ?_
    exact H
  · have H := H.2 c
    refine x_aload_n (x_at tdX12_nextOrder 6 rfl) rfl rfl ?_
    refine x_iload_n (x_at tdX12_nextOrder 7 rfl) rfl rfl ?_
    refine x_iload_n (x_at tdX12_nextOrder 8 rfl) rfl rfl ?_
    refine x_cVi (as := [.int x1, .int x2]) (rest := []) mi_X12_canPut vc_12 (lM_0 h) (x_at tdX12_nextOrder 9 rfl) wm_X12_509 rfl (Nat.le_of_ble_eq_true rfl) rfl H (fun r1 S1 H => ?_)
    refine x_if_eq 21 (x_at tdX12_nextOrder 10 rfl) rfl (fun c => ?_) (fun c => ?_)
    · have H := H.1 c
      refine x_iinc (x_at tdX12_nextOrder 13 rfl) rfl (k_inc_1 _) (by decide) ?_
      refine x_goto 2 (x_at tdX12_nextOrder 14 rfl) rfl ?_
      refine x_weak (lv' := [(0, .ref (x_ad (gM h) 0)), (1, .int x1), (2, .int (x2 + 1))]) ⟨rfl, rfl, rfl, trivial⟩ ?_
      exact H
    · have H := H.2 c
      refine x_iconst (x_at tdX12_nextOrder 11 rfl) k_c_1 ?_
      exact x_ireturn (ty := .boolean) rfl zb1.1 (x_at tdX12_nextOrder 12 rfl) ⟨_, rfl, H⟩
theorem b_M_nextOrder_27 {h : xH} {d : Nat}  {x1 : Int32} {S : xSt} {K : Int32 → xSt → Prop}  (H : (((S.1 0 79) ≤ 0 → K 0 S) ∧ (¬ (S.1 0 79) ≤ 0 → (vp_in ((S.1 0 79) - (1 : Int32)) 7 ∧ B_M_nextOrder_56 h d x1 ((S.1 38 (((S.1 0 79) - (1 : Int32)) : Int32).toNatClampNeg) + (1 : Int32)) (x_putI S 0 79 ((S.1 0 79) - (1 : Int32))) K)))) : B_M_nextOrder_27 h d x1 S K := by
  unfold B_M_nextOrder_27
  refine x_aload_n (x_at tdX12_nextOrder 15 rfl) rfl rfl ?_
  refine gfM_0_79 (x_at tdX12_nextOrder 16 rfl) wf_X12_497 ?_
  refine x_if_le 84 (x_at tdX12_nextOrder 17 rfl) rfl (fun c => ?_) (fun c => ?_)
  · have H := H.1 c
    refine x_iconst (x_at tdX12_nextOrder 46 rfl) k_c_0 ?_
    exact x_ireturn (ty := .boolean) rfl zb0.1 (x_at tdX12_nextOrder 47 rfl) ⟨_, rfl, H⟩
  · have H := H.2 c
    refine x_aload_n (x_at tdX12_nextOrder 18 rfl) rfl rfl ?_
    refine x_dup (x_at tdX12_nextOrder 19 rfl) rfl ?_
    refine gfM_0_79 (x_at tdX12_nextOrder 20 rfl) wf_X12_497 ?_
    refine x_iconst (x_at tdX12_nextOrder 21 rfl) k_c_1 ?_
    refine x_isub (x_at tdX12_nextOrder 22 rfl) ?_
    refine pfM_0_79 (x_at tdX12_nextOrder 23 rfl) wf_X12_497 ?_
    refine x_aload_n (x_at tdX12_nextOrder 24 rfl) rfl rfl ?_
    refine gfM_0_75 (x_at tdX12_nextOrder 25 rfl) wf_X12_130 ?_
    refine x_aload_n (x_at tdX12_nextOrder 26 rfl) rfl rfl ?_
    refine gfM_0_79 (x_at tdX12_nextOrder 27 rfl) wf_X12_497 ?_
    refine x_top (v := ((S.1 0 79) - (1 : Int32))) rfl ?_
    refine x_iald (lM_38 h) (x_at tdX12_nextOrder 28 rfl) H.1 ?_
    have H := H.2
    refine x_top (v := (S.1 38 (((S.1 0 79) - (1 : Int32)) : Int32).toNatClampNeg)) rfl ?_
    refine x_iconst (x_at tdX12_nextOrder 29 rfl) k_c_1 ?_
    refine x_iadd (x_at tdX12_nextOrder 30 rfl) ?_
    refine x_istore_n (x_at tdX12_nextOrder 31 rfl) rfl (by decide) ?_
    refine x_weak (lv' := [(0, .ref (x_ad (gM h) 0)), (1, .int x1), (2, .int ((S.1 38 (((S.1 0 79) - (1 : Int32)) : Int32).toNatClampNeg) + (1 : Int32)))]) ⟨rfl, rfl, rfl, trivial⟩ ?_
    exact H
theorem b_M_nextOrder_56 {h : xH} {d : Nat}  {x1 : Int32} {x2 : Int32} {S : xSt} {K : Int32 → xSt → Prop}  (H : (((S.1 0 57) ≤ x2 → B_M_nextOrder_27 h d x1 S K) ∧ (¬ (S.1 0 57) ≤ x2 → M_M_canPut h d x1 x2 S (fun (r1 : Int32) (S1 : xSt) => ((r1 = 0 → B_M_nextOrder_56 h d x1 (x2 + 1) S1 K) ∧ (¬ r1 = 0 → K 1 S1)))))) : B_M_nextOrder_56 h d x1 x2 S K := by
  unfold B_M_nextOrder_56
  refine x_iload_n (x_at tdX12_nextOrder 32 rfl) rfl rfl ?_
  refine x_aload_n (x_at tdX12_nextOrder 33 rfl) rfl rfl ?_
  refine gfM_0_57 (x_at tdX12_nextOrder 34 rfl) wf_X12_426 ?_
  refine x_ic_ge 81 (x_at tdX12_nextOrder 35 rfl) rfl (fun c => ?_) (fun c => ?_)
  · have H := H.1 c
    refine x_goto 27 (x_at tdX12_nextOrder 45 rfl) rfl ?_
    refine x_weak (lv' := [(0, .ref (x_ad (gM h) 0)), (1, .int x1)]) ⟨rfl, rfl, trivial⟩ ?_
    exact H
  · have H := H.2 c
    refine x_aload_n (x_at tdX12_nextOrder 36 rfl) rfl rfl ?_
    refine x_iload_n (x_at tdX12_nextOrder 37 rfl) rfl rfl ?_
    refine x_iload_n (x_at tdX12_nextOrder 38 rfl) rfl rfl ?_
    refine x_cVi (as := [.int x1, .int x2]) (rest := []) mi_X12_canPut vc_12 (lM_0 h) (x_at tdX12_nextOrder 39 rfl) wm_X12_509 rfl (Nat.le_of_ble_eq_true rfl) rfl H (fun r1 S1 H => ?_)
    refine x_if_eq 75 (x_at tdX12_nextOrder 40 rfl) rfl (fun c => ?_) (fun c => ?_)
    · have H := H.1 c
      refine x_iinc (x_at tdX12_nextOrder 43 rfl) rfl (k_inc_1 _) (by decide) ?_
      refine x_goto 56 (x_at tdX12_nextOrder 44 rfl) rfl ?_
      refine x_weak (lv' := [(0, .ref (x_ad (gM h) 0)), (1, .int x1), (2, .int (x2 + 1))]) ⟨rfl, rfl, rfl, trivial⟩ ?_
      exact H
    · have H := H.2 c
      refine x_iconst (x_at tdX12_nextOrder 41 rfl) k_c_1 ?_
      exact x_ireturn (ty := .boolean) rfl zb1.1 (x_at tdX12_nextOrder 42 rfl) ⟨_, rfl, H⟩
theorem e_M_layBest {h : xH} {d : Nat} {x1 : Int32} {x2 : Int32} {S : xSt} {K : xSt → Prop}  (H : M_M_beginOrder h (d + 3) (x_putI S 0 80 ((S.1 34 20) + x2)) (fun (S1 : xSt) => B_M_layBest_32 h d x1 (x_putI (x_putI (x_putI S1 0 81 0) 0 82 0) 0 83 0) K)) : M_M_layBest h d x1 x2 S K := by
  refine x_enter pn_X12 (Nat.le_of_ble_eq_true rfl) ?_
  show X (gM h) _ _ 0 [(0, .ref (x_ad (gM h) 0)), (1, .int x1), (2, .int x2)] [] S _
  refine x_aload_n (x_at tdX12_layBest 0 rfl) rfl rfl ?_
  refine x_aload_n (x_at tdX12_layBest 1 rfl) rfl rfl ?_
  refine gfM_0_67 (x_at tdX12_layBest 2 rfl) wf_X12_118 ?_
  refine x_bipush (x_at tdX12_layBest 3 rfl) k_b_20 ?_
  refine x_iald (lM_34 h) (x_at tdX12_layBest 4 rfl) vi_20_24 ?_
  refine x_top (v := (S.1 34 20)) rfl ?_
  refine x_iload_n (x_at tdX12_layBest 5 rfl) rfl rfl ?_
  refine x_iadd (x_at tdX12_layBest 6 rfl) ?_
  refine pfM_0_80 (x_at tdX12_layBest 7 rfl) wf_X12_494 ?_
  refine x_aload_n (x_at tdX12_layBest 8 rfl) rfl rfl ?_
  refine x_cVv (as := []) (rest := []) mi_X12_beginOrder vc_12 (lM_0 h) (x_at tdX12_layBest 9 rfl) wm_X12_528 rfl (Nat.le_of_ble_eq_true rfl) rfl H (fun S1 H => ?_)
  refine x_aload_n (x_at tdX12_layBest 10 rfl) rfl rfl ?_
  refine x_iconst (x_at tdX12_layBest 11 rfl) k_c_0 ?_
  refine pfM_0_81 (x_at tdX12_layBest 12 rfl) wf_X12_513 ?_
  refine x_aload_n (x_at tdX12_layBest 13 rfl) rfl rfl ?_
  refine x_iconst (x_at tdX12_layBest 14 rfl) k_c_0 ?_
  refine pfM_0_82 (x_at tdX12_layBest 15 rfl) wf_X12_522 ?_
  refine x_aload_n (x_at tdX12_layBest 16 rfl) rfl rfl ?_
  refine x_iconst (x_at tdX12_layBest 17 rfl) k_c_0 ?_
  refine pfM_0_83 (x_at tdX12_layBest 18 rfl) wf_X12_519 ?_
  refine x_weak (lv' := [(0, .ref (x_ad (gM h) 0)), (1, .int x1)]) ⟨rfl, rfl, trivial⟩ ?_
  exact H
theorem b_M_layBest_32 {h : xH} {d : Nat}  {x1 : Int32} {S : xSt} {K : xSt → Prop}  (H : M_M_nextOrder h d x1 S (fun (r1 : Int32) (S1 : xSt) => ((r1 = 0 → K S1) ∧ (¬ r1 = 0 → M_M_isBetter h (d + 2) S1 (fun (r2 : Int32) (S2 : xSt) => ((¬ r2 = 0 → (vp_in (S2.1 0 79) 7 ∧ (vp_in (S2.1 0 79) 7 ∧ B_M_layBest_86 h d x1 0 (x_putI (x_putI (x_putI S2 0 81 (S2.1 0 79)) 0 82 (S2.1 39 ((S2.1 0 79) : Int32).toNatClampNeg)) 0 83 (S2.1 40 ((S2.1 0 79) : Int32).toNatClampNeg)) K))) ∧ (r2 = 0 → B_M_layBest_32 h d x1 S2 K))))))) : B_M_layBest_32 h d x1 S K := by
  unfold B_M_layBest_32
  refine x_aload_n (x_at tdX12_layBest 19 rfl) rfl rfl ?_
  refine x_iload_n (x_at tdX12_layBest 20 rfl) rfl rfl ?_
  refine x_cVi (as := [.int x1]) (rest := []) mi_X12_nextOrder vc_12 (lM_0 h) (x_at tdX12_layBest 21 rfl) wm_X12_531 rfl (Nat.le_of_ble_eq_true rfl) rfl H (fun r1 S1 H => ?_)
  refine x_if_eq 115 (x_at tdX12_layBest 22 rfl) rfl (fun c => ?_) (fun c => ?_)
  · have H := H.1 c
    exact x_return rfl (x_at tdX12_layBest 62 rfl) ⟨rfl, H⟩
  · have H := H.2 c
    refine x_aload_n (x_at tdX12_layBest 23 rfl) rfl rfl ?_
    refine x_cVi (as := []) (rest := []) mi_X12_isBetter vc_12 (lM_0 h) (x_at tdX12_layBest 24 rfl) wm_X12_534 rfl (Nat.le_of_ble_eq_true rfl) rfl H (fun r2 S2 H => ?_)
    refine x_if_ne 50 (x_at tdX12_layBest 25 rfl) rfl (fun c => ?_) (fun c => ?_)
    · have H := H.1 c
      refine x_aload_n (x_at tdX12_layBest 27 rfl) rfl rfl ?_
      refine x_aload_n (x_at tdX12_layBest 28 rfl) rfl rfl ?_
      refine gfM_0_79 (x_at tdX12_layBest 29 rfl) wf_X12_497 ?_
      refine pfM_0_81 (x_at tdX12_layBest 30 rfl) wf_X12_513 ?_
      refine x_aload_n (x_at tdX12_layBest 31 rfl) rfl rfl ?_
      refine x_aload_n (x_at tdX12_layBest 32 rfl) rfl rfl ?_
      refine gfM_0_76 (x_at tdX12_layBest 33 rfl) wf_X12_133 ?_
      refine x_aload_n (x_at tdX12_layBest 34 rfl) rfl rfl ?_
      refine gfM_0_79 (x_at tdX12_layBest 35 rfl) wf_X12_497 ?_
      refine x_top (v := (S2.1 0 79)) rfl ?_
      refine x_iald (lM_39 h) (x_at tdX12_layBest 36 rfl) H.1 ?_
      have H := H.2
      refine x_top (v := (S2.1 39 ((S2.1 0 79) : Int32).toNatClampNeg)) rfl ?_
      refine pfM_0_82 (x_at tdX12_layBest 37 rfl) wf_X12_522 ?_
      refine x_aload_n (x_at tdX12_layBest 38 rfl) rfl rfl ?_
      refine x_aload_n (x_at tdX12_layBest 39 rfl) rfl rfl ?_
      refine gfM_0_77 (x_at tdX12_layBest 40 rfl) wf_X12_136 ?_
      refine x_aload_n (x_at tdX12_layBest 41 rfl) rfl rfl ?_
      refine gfM_0_79 (x_at tdX12_layBest 42 rfl) wf_X12_497 ?_
      refine x_top (v := (S2.1 0 79)) rfl ?_
      refine x_iald (lM_40 h) (x_at tdX12_layBest 43 rfl) H.1 ?_
      have H := H.2
      refine x_top (v := (S2.1 40 ((S2.1 0 79) : Int32).toNatClampNeg)) rfl ?_
      refine pfM_0_83 (x_at tdX12_layBest 44 rfl) wf_X12_519 ?_
      refine x_iconst (x_at tdX12_layBest 45 rfl) k_c_0 ?_
      refine x_istore_n (x_at tdX12_layBest 46 rfl) rfl (by decide) ?_
      refine x_weak (lv' := [(0, .ref (x_ad (gM h) 0)), (1, .int x1), (3, .int 0)]) ⟨rfl, rfl, rfl, trivial⟩ ?_
      exact H
    · have H := H.2 c
      refine x_goto 32 (x_at tdX12_layBest 26 rfl) rfl ?_
      refine x_weak (lv' := [(0, .ref (x_ad (gM h) 0)), (1, .int x1)]) ⟨rfl, rfl, trivial⟩ ?_
      exact H
theorem b_M_layBest_86 {h : xH} {d : Nat}  {x1 : Int32} {x3 : Int32} {S : xSt} {K : xSt → Prop}  (H : (((S.1 0 79) ≤ x3 → B_M_layBest_32 h d x1 S K) ∧ (¬ (S.1 0 79) ≤ x3 → (vp_in x3 7 ∧ (vp_in x3 7 ∧ B_M_layBest_86 h d x1 (x3 + 1) (x_putI S 41 (x3 : Int32).toNatClampNeg (S.1 38 (x3 : Int32).toNatClampNeg)) K))))) : B_M_layBest_86 h d x1 x3 S K := by
  unfold B_M_layBest_86
  refine x_iload_n (x_at tdX12_layBest 47 rfl) rfl rfl ?_
  refine x_aload_n (x_at tdX12_layBest 48 rfl) rfl rfl ?_
  refine gfM_0_79 (x_at tdX12_layBest 49 rfl) wf_X12_497 ?_
  refine x_ic_ge 112 (x_at tdX12_layBest 50 rfl) rfl (fun c => ?_) (fun c => ?_)
  · have H := H.1 c
    refine x_goto 32 (x_at tdX12_layBest 61 rfl) rfl ?_
    refine x_weak (lv' := [(0, .ref (x_ad (gM h) 0)), (1, .int x1)]) ⟨rfl, rfl, trivial⟩ ?_
    exact H
  · have H := H.2 c
    refine x_aload_n (x_at tdX12_layBest 51 rfl) rfl rfl ?_
    refine gfM_0_78 (x_at tdX12_layBest 52 rfl) wf_X12_139 ?_
    refine x_iload_n (x_at tdX12_layBest 53 rfl) rfl rfl ?_
    refine x_aload_n (x_at tdX12_layBest 54 rfl) rfl rfl ?_
    refine gfM_0_75 (x_at tdX12_layBest 55 rfl) wf_X12_130 ?_
    refine x_iload_n (x_at tdX12_layBest 56 rfl) rfl rfl ?_
    refine x_iald (lM_38 h) (x_at tdX12_layBest 57 rfl) H.1 ?_
    have H := H.2
    refine x_iast (lM_41 h) (x_at tdX12_layBest 58 rfl) H.1 ?_
    have H := H.2
    refine x_iinc (x_at tdX12_layBest 59 rfl) rfl (k_inc_1 _) (by decide) ?_
    refine x_goto 86 (x_at tdX12_layBest 60 rfl) rfl ?_
    refine x_weak (lv' := [(0, .ref (x_ad (gM h) 0)), (1, .int x1), (3, .int (x3 + 1))]) ⟨rfl, rfl, rfl, trivial⟩ ?_
    exact H
theorem e_M_keep {h : xH} {d : Nat} {x1 : Int32} {x2 : Int32} {S : xSt} {K : Int32 → xSt → Prop}  (H : M_M_isMan h (d + 3) x1 (x_putI S 0 85 0) (fun (r1 : Int32) (S1 : xSt) => ((r1 = 0 → K (-1) S1) ∧ (¬ r1 = 0 → M_M_isIn h (d + 4) x2 0 2 S1 (fun (r2 : Int32) (S2 : xSt) => ((¬ r2 = 0 → M_M_layBest h d x1 0 S2 (fun (S3 : xSt) => B_M_keep_32 h d x2 0 S3 K)) ∧ (r2 = 0 → K (-1) S2))))))) : M_M_keep h d x1 x2 S K := by
  refine x_enter pn_X12 (Nat.le_of_ble_eq_true rfl) ?_
  show X (gM h) _ _ 0 [(0, .ref (x_ad (gM h) 0)), (1, .int x1), (2, .int x2)] [] S _
  refine x_aload_n (x_at tdX12_keep 0 rfl) rfl rfl ?_
  refine x_iconst (x_at tdX12_keep 1 rfl) k_c_0 ?_
  refine pfM_0_85 (x_at tdX12_keep 2 rfl) wf_X12_450 ?_
  refine x_aload_n (x_at tdX12_keep 3 rfl) rfl rfl ?_
  refine x_iload_n (x_at tdX12_keep 4 rfl) rfl rfl ?_
  refine x_cVi (as := [.int x1]) (rest := []) mi_X12_isMan vc_12 (lM_0 h) (x_at tdX12_keep 5 rfl) wm_X12_460 rfl (Nat.le_of_ble_eq_true rfl) rfl H (fun r1 S1 H => ?_)
  refine x_if_eq 22 (x_at tdX12_keep 6 rfl) rfl (fun c => ?_) (fun c => ?_)
  · have H := H.1 c
    refine x_iconst (x_at tdX12_keep 12 rfl) k_c_m1 ?_
    exact x_ireturn (ty := .int) rfl rfl (x_at tdX12_keep 13 rfl) ⟨_, rfl, H⟩
  · have H := H.2 c
    refine x_iload_n (x_at tdX12_keep 7 rfl) rfl rfl ?_
    refine x_iconst (x_at tdX12_keep 8 rfl) k_c_0 ?_
    refine x_iconst (x_at tdX12_keep 9 rfl) k_c_2 ?_
    refine x_cSi (as := [.int x2, .int 0, .int 2]) (rest := []) mi_X12_isIn (x_at tdX12_keep 10 rfl) wm_X12_453 rfl (Nat.le_of_ble_eq_true rfl) rfl H (fun r2 S2 H => ?_)
    refine x_if_ne 24 (x_at tdX12_keep 11 rfl) rfl (fun c => ?_) (fun c => ?_)
    · have H := H.1 c
      refine x_aload_n (x_at tdX12_keep 14 rfl) rfl rfl ?_
      refine x_iload_n (x_at tdX12_keep 15 rfl) rfl rfl ?_
      refine x_iconst (x_at tdX12_keep 16 rfl) k_c_0 ?_
      refine x_cVv (as := [.int x1, .int 0]) (rest := []) mi_X12_layBest vc_12 (lM_0 h) (x_at tdX12_keep 17 rfl) wm_X12_537 rfl (Nat.le_of_ble_eq_true rfl) rfl H (fun S3 H => ?_)
      refine x_iconst (x_at tdX12_keep 18 rfl) k_c_0 ?_
      refine x_istore_n (x_at tdX12_keep 19 rfl) rfl (by decide) ?_
      refine x_weak (lv' := [(0, .ref (x_ad (gM h) 0)), (2, .int x2), (3, .int 0)]) ⟨rfl, rfl, rfl, trivial⟩ ?_
      exact H
    · have H := H.2 c
      refine x_iconst (x_at tdX12_keep 12 rfl) k_c_m1 ?_
      exact x_ireturn (ty := .int) rfl rfl (x_at tdX12_keep 13 rfl) ⟨_, rfl, H⟩
theorem b_M_keep_32 {h : xH} {d : Nat}  {x2 : Int32} {x3 : Int32} {S : xSt} {K : Int32 → xSt → Prop}  (H : (((S.1 0 81) ≤ x3 → ((¬ x2 = 0 → ((¬ x2 = 1 → K (S.1 0 83) (x_putI S 0 85 (S.1 0 81))) ∧ (x2 = 1 → K (S.1 0 82) (x_putI S 0 85 (S.1 0 81))))) ∧ (x2 = 0 → M_M_members h (d + 4) (S.1 0 83) (x_putI S 0 85 (S.1 0 81)) (fun (r1 : Int32) (S1 : xSt) => K r1 S1)))) ∧ (¬ (S.1 0 81) ≤ x3 → (vp_in x3 7 ∧ (vp_in x3 10 ∧ B_M_keep_32 h d x2 (x3 + 1) (x_putI S 42 (x3 : Int32).toNatClampNeg (S.1 41 (x3 : Int32).toNatClampNeg)) K))))) : B_M_keep_32 h d x2 x3 S K := by
  unfold B_M_keep_32
  refine x_iload_n (x_at tdX12_keep 20 rfl) rfl rfl ?_
  refine x_aload_n (x_at tdX12_keep 21 rfl) rfl rfl ?_
  refine gfM_0_81 (x_at tdX12_keep 22 rfl) wf_X12_513 ?_
  refine x_ic_ge 58 (x_at tdX12_keep 23 rfl) rfl (fun c => ?_) (fun c => ?_)
  · have H := H.1 c
    refine x_aload_n (x_at tdX12_keep 34 rfl) rfl rfl ?_
    refine x_aload_n (x_at tdX12_keep 35 rfl) rfl rfl ?_
    refine gfM_0_81 (x_at tdX12_keep 36 rfl) wf_X12_513 ?_
    refine pfM_0_85 (x_at tdX12_keep 37 rfl) wf_X12_450 ?_
    refine x_iload_n (x_at tdX12_keep 38 rfl) rfl rfl ?_
    refine x_if_ne 80 (x_at tdX12_keep 39 rfl) rfl (fun c => ?_) (fun c => ?_)
    · have H := H.1 c
      refine x_iload_n (x_at tdX12_keep 44 rfl) rfl rfl ?_
      refine x_iconst (x_at tdX12_keep 45 rfl) k_c_1 ?_
      refine x_ic_ne 92 (x_at tdX12_keep 46 rfl) rfl (fun c => ?_) (fun c => ?_)
      · have H := H.1 c
        refine x_aload_n (x_at tdX12_keep 50 rfl) rfl rfl ?_
        refine gfM_0_83 (x_at tdX12_keep 51 rfl) wf_X12_519 ?_
        refine x_top (v := (S.1 0 83)) rfl ?_
        exact x_ireturn (ty := .int) rfl rfl (x_at tdX12_keep 52 rfl) ⟨_, rfl, H⟩
      · have H := H.2 c
        refine x_aload_n (x_at tdX12_keep 47 rfl) rfl rfl ?_
        refine gfM_0_82 (x_at tdX12_keep 48 rfl) wf_X12_522 ?_
        refine x_top (v := (S.1 0 82)) rfl ?_
        refine x_goto 96 (x_at tdX12_keep 49 rfl) rfl ?_
        exact x_ireturn (ty := .int) rfl rfl (x_at tdX12_keep 52 rfl) ⟨_, rfl, H⟩
    · have H := H.2 c
      refine x_aload_n (x_at tdX12_keep 40 rfl) rfl rfl ?_
      refine gfM_0_83 (x_at tdX12_keep 41 rfl) wf_X12_519 ?_
      refine x_top (v := (S.1 0 83)) rfl ?_
      refine x_cSi (as := [.int (S.1 0 83)]) (rest := []) mi_X12_members (x_at tdX12_keep 42 rfl) wm_X12_516 rfl (Nat.le_of_ble_eq_true rfl) rfl H (fun r1 S1 H => ?_)
      refine x_goto 96 (x_at tdX12_keep 43 rfl) rfl ?_
      exact x_ireturn (ty := .int) rfl rfl (x_at tdX12_keep 52 rfl) ⟨_, rfl, H⟩
  · have H := H.2 c
    refine x_aload_n (x_at tdX12_keep 24 rfl) rfl rfl ?_
    refine gfM_0_84 (x_at tdX12_keep 25 rfl) wf_X12_142 ?_
    refine x_iload_n (x_at tdX12_keep 26 rfl) rfl rfl ?_
    refine x_aload_n (x_at tdX12_keep 27 rfl) rfl rfl ?_
    refine gfM_0_78 (x_at tdX12_keep 28 rfl) wf_X12_139 ?_
    refine x_iload_n (x_at tdX12_keep 29 rfl) rfl rfl ?_
    refine x_iald (lM_41 h) (x_at tdX12_keep 30 rfl) H.1 ?_
    have H := H.2
    refine x_iast (lM_42 h) (x_at tdX12_keep 31 rfl) H.1 ?_
    have H := H.2
    refine x_iinc (x_at tdX12_keep 32 rfl) rfl (k_inc_1 _) (by decide) ?_
    refine x_goto 32 (x_at tdX12_keep 33 rfl) rfl ?_
    refine x_weak (lv' := [(0, .ref (x_ad (gM h) 0)), (2, .int x2), (3, .int (x3 + 1))]) ⟨rfl, rfl, rfl, trivial⟩ ?_
    exact H
theorem e_M_rest {h : xH} {d : Nat} {x1 : Int32} {S : xSt} {K : Int32 → xSt → Prop}  (H : M_M_isMan h (d + 3) x1 S (fun (r1 : Int32) (S1 : xSt) => ((¬ r1 = 0 → M_M_layBest h d x1 0 S1 (fun (S2 : xSt) => M_M_members h (d + 4) (S2.1 0 83) S2 (fun (r3 : Int32) (S3 : xSt) => M_M_layBest h d x1 60 S3 (fun (S4 : xSt) => B_M_rest_33 h d x1 r3 60 S4 K)))) ∧ (r1 = 0 → K (-1) S1)))) : M_M_rest h d x1 S K := by
  refine x_enter pn_X12 (Nat.le_of_ble_eq_true rfl) ?_
  show X (gM h) _ _ 0 [(0, .ref (x_ad (gM h) 0)), (1, .int x1)] [] S _
  refine x_aload_n (x_at tdX12_rest 0 rfl) rfl rfl ?_
  refine x_iload_n (x_at tdX12_rest 1 rfl) rfl rfl ?_
  refine x_cVi (as := [.int x1]) (rest := []) mi_X12_isMan vc_12 (lM_0 h) (x_at tdX12_rest 2 rfl) wm_X12_460 rfl (Nat.le_of_ble_eq_true rfl) rfl H (fun r1 S1 H => ?_)
  refine x_if_ne 10 (x_at tdX12_rest 3 rfl) rfl (fun c => ?_) (fun c => ?_)
  · have H := H.1 c
    refine x_aload_n (x_at tdX12_rest 6 rfl) rfl rfl ?_
    refine x_iload_n (x_at tdX12_rest 7 rfl) rfl rfl ?_
    refine x_iconst (x_at tdX12_rest 8 rfl) k_c_0 ?_
    refine x_cVv (as := [.int x1, .int 0]) (rest := []) mi_X12_layBest vc_12 (lM_0 h) (x_at tdX12_rest 9 rfl) wm_X12_537 rfl (Nat.le_of_ble_eq_true rfl) rfl H (fun S2 H => ?_)
    refine x_aload_n (x_at tdX12_rest 10 rfl) rfl rfl ?_
    refine gfM_0_83 (x_at tdX12_rest 11 rfl) wf_X12_519 ?_
    refine x_cSi (as := [.int (S2.1 0 83)]) (rest := []) mi_X12_members (x_at tdX12_rest 12 rfl) wm_X12_516 rfl (Nat.le_of_ble_eq_true rfl) rfl H (fun r3 S3 H => ?_)
    refine x_istore_n (x_at tdX12_rest 13 rfl) rfl (by decide) ?_
    refine x_bipush (x_at tdX12_rest 14 rfl) k_b_60 ?_
    refine x_istore_n (x_at tdX12_rest 15 rfl) rfl (by decide) ?_
    refine x_aload_n (x_at tdX12_rest 16 rfl) rfl rfl ?_
    refine x_iload_n (x_at tdX12_rest 17 rfl) rfl rfl ?_
    refine x_iload_n (x_at tdX12_rest 18 rfl) rfl rfl ?_
    refine x_cVv (as := [.int x1, .int 60]) (rest := []) mi_X12_layBest vc_12 (lM_0 h) (x_at tdX12_rest 19 rfl) wm_X12_537 rfl (Nat.le_of_ble_eq_true rfl) rfl H (fun S4 H => ?_)
    refine x_weak (lv' := [(0, .ref (x_ad (gM h) 0)), (1, .int x1), (2, .int r3), (3, .int 60)]) ⟨rfl, rfl, rfl, rfl, trivial⟩ ?_
    exact H
  · have H := H.2 c
    refine x_iconst (x_at tdX12_rest 4 rfl) k_c_m1 ?_
    exact x_ireturn (ty := .int) rfl rfl (x_at tdX12_rest 5 rfl) ⟨_, rfl, H⟩
theorem b_M_rest_33 {h : xH} {d : Nat}  {x1 : Int32} {x2 : Int32} {x3 : Int32} {S : xSt} {K : Int32 → xSt → Prop}  (H : M_M_members h (d + 4) (S.1 0 83) S (fun (r1 : Int32) (S1 : xSt) => ((x2 ≤ r1 → K x3 S1) ∧ (¬ x2 ≤ r1 → M_M_layBest h d x1 (x3 + (-1)) S1 (fun (S2 : xSt) => B_M_rest_33 h d x1 x2 (x3 + (-1)) S2 K))))) : B_M_rest_33 h d x1 x2 x3 S K := by
  unfold B_M_rest_33
  refine x_aload_n (x_at tdX12_rest 20 rfl) rfl rfl ?_
  refine gfM_0_83 (x_at tdX12_rest 21 rfl) wf_X12_519 ?_
  refine x_cSi (as := [.int (S.1 0 83)]) (rest := []) mi_X12_members (x_at tdX12_rest 22 rfl) wm_X12_516 rfl (Nat.le_of_ble_eq_true rfl) rfl H (fun r1 S1 H => ?_)
  refine x_iload_n (x_at tdX12_rest 23 rfl) rfl rfl ?_
  refine x_ic_ge 56 (x_at tdX12_rest 24 rfl) rfl (fun c => ?_) (fun c => ?_)
  · have H := H.1 c
    refine x_iload_n (x_at tdX12_rest 31 rfl) rfl rfl ?_
    exact x_ireturn (ty := .int) rfl rfl (x_at tdX12_rest 32 rfl) ⟨_, rfl, H⟩
  · have H := H.2 c
    refine x_iinc (x_at tdX12_rest 25 rfl) rfl (k_inc_m1 _) (by decide) ?_
    refine x_aload_n (x_at tdX12_rest 26 rfl) rfl rfl ?_
    refine x_iload_n (x_at tdX12_rest 27 rfl) rfl rfl ?_
    refine x_iload_n (x_at tdX12_rest 28 rfl) rfl rfl ?_
    refine x_cVv (as := [.int x1, .int (x3 + (-1))]) (rest := []) mi_X12_layBest vc_12 (lM_0 h) (x_at tdX12_rest 29 rfl) wm_X12_537 rfl (Nat.le_of_ble_eq_true rfl) rfl H (fun S2 H => ?_)
    refine x_goto 33 (x_at tdX12_rest 30 rfl) rfl ?_
    refine x_weak (lv' := [(0, .ref (x_ad (gM h) 0)), (1, .int x1), (2, .int x2), (3, .int (x3 + (-1)))]) ⟨rfl, rfl, rfl, rfl, trivial⟩ ?_
    exact H
theorem e_M_ties {h : xH} {d : Nat} {x1 : Int32} {x2 : Int32} {S : xSt} {K : Int32 → xSt → Prop}  (H : M_M_isMan h d x1 S (fun (r1 : Int32) (S1 : xSt) => ((r1 = 0 → K (-1) S1) ∧ (¬ r1 = 0 → M_M_isMan h d x2 S1 (fun (r2 : Int32) (S2 : xSt) => ((r2 = 0 → K (-1) S2) ∧ (¬ r2 = 0 → ((¬ x1 = x2 → B_M_ties_28 h d x1 x2 0 0 S2 K) ∧ (x1 = x2 → K (-1) S2))))))))) : M_M_ties h d x1 x2 S K := by
  refine x_enter pn_X12 (Nat.le_of_ble_eq_true rfl) ?_
  show X (gM h) _ _ 0 [(0, .ref (x_ad (gM h) 0)), (1, .int x1), (2, .int x2)] [] S _
  refine x_aload_n (x_at tdX12_ties 0 rfl) rfl rfl ?_
  refine x_iload_n (x_at tdX12_ties 1 rfl) rfl rfl ?_
  refine x_cVi (as := [.int x1]) (rest := []) mi_X12_isMan vc_12 (lM_0 h) (x_at tdX12_ties 2 rfl) wm_X12_460 rfl (Nat.le_of_ble_eq_true rfl) rfl H (fun r1 S1 H => ?_)
  refine x_if_eq 21 (x_at tdX12_ties 3 rfl) rfl (fun c => ?_) (fun c => ?_)
  · have H := H.1 c
    refine x_iconst (x_at tdX12_ties 11 rfl) k_c_m1 ?_
    exact x_ireturn (ty := .int) rfl rfl (x_at tdX12_ties 12 rfl) ⟨_, rfl, H⟩
  · have H := H.2 c
    refine x_aload_n (x_at tdX12_ties 4 rfl) rfl rfl ?_
    refine x_iload_n (x_at tdX12_ties 5 rfl) rfl rfl ?_
    refine x_cVi (as := [.int x2]) (rest := []) mi_X12_isMan vc_12 (lM_0 h) (x_at tdX12_ties 6 rfl) wm_X12_460 rfl (Nat.le_of_ble_eq_true rfl) rfl H (fun r2 S2 H => ?_)
    refine x_if_eq 21 (x_at tdX12_ties 7 rfl) rfl (fun c => ?_) (fun c => ?_)
    · have H := H.1 c
      refine x_iconst (x_at tdX12_ties 11 rfl) k_c_m1 ?_
      exact x_ireturn (ty := .int) rfl rfl (x_at tdX12_ties 12 rfl) ⟨_, rfl, H⟩
    · have H := H.2 c
      refine x_iload_n (x_at tdX12_ties 8 rfl) rfl rfl ?_
      refine x_iload_n (x_at tdX12_ties 9 rfl) rfl rfl ?_
      refine x_ic_ne 23 (x_at tdX12_ties 10 rfl) rfl (fun c => ?_) (fun c => ?_)
      · have H := H.1 c
        refine x_iconst (x_at tdX12_ties 13 rfl) k_c_0 ?_
        refine x_istore_n (x_at tdX12_ties 14 rfl) rfl (by decide) ?_
        refine x_iconst (x_at tdX12_ties 15 rfl) k_c_0 ?_
        refine x_istore (x_at tdX12_ties 16 rfl) (by decide) ?_
        refine x_weak (lv' := [(0, .ref (x_ad (gM h) 0)), (1, .int x1), (2, .int x2), (3, .int 0), (4, .int 0)]) ⟨rfl, rfl, rfl, rfl, rfl, trivial⟩ ?_
        exact H
      · have H := H.2 c
        refine x_iconst (x_at tdX12_ties 11 rfl) k_c_m1 ?_
        exact x_ireturn (ty := .int) rfl rfl (x_at tdX12_ties 12 rfl) ⟨_, rfl, H⟩
theorem b_M_ties_28 {h : xH} {d : Nat}  {x1 : Int32} {x2 : Int32} {x3 : Int32} {x4 : Int32} {S : xSt} {K : Int32 → xSt → Prop}  (H : (((S.1 0 58) ≤ x4 → K x3 S) ∧ (¬ (S.1 0 58) ≤ x4 → M_M_isOn h (d + 1) x4 S (fun (r1 : Int32) (S1 : xSt) => ((r1 = 0 → B_M_ties_73 h d x1 x2 x4 x3 S1 K) ∧ (¬ r1 = 0 → (vp_in x4 10 ∧ ((¬ (S1.1 26 (x4 : Int32).toNatClampNeg) = x1 → B_M_ties_73 h d x1 x2 x4 x3 S1 K) ∧ ((S1.1 26 (x4 : Int32).toNatClampNeg) = x1 → (vp_in x4 10 ∧ ((¬ (S1.1 27 (x4 : Int32).toNatClampNeg) = x2 → B_M_ties_73 h d x1 x2 x4 x3 S1 K) ∧ ((S1.1 27 (x4 : Int32).toNatClampNeg) = x2 → B_M_ties_74 h d x1 x2 x4 1 x3 S1 K)))))))))))) : B_M_ties_28 h d x1 x2 x3 x4 S K := by
  unfold B_M_ties_28
  refine x_iload (x_at tdX12_ties 17 rfl) rfl ?_
  refine x_aload_n (x_at tdX12_ties 18 rfl) rfl rfl ?_
  refine gfM_0_58 (x_at tdX12_ties 19 rfl) wf_X12_429 ?_
  refine x_ic_ge 88 (x_at tdX12_ties 20 rfl) rfl (fun c => ?_) (fun c => ?_)
  · have H := H.1 c
    refine x_iload_n (x_at tdX12_ties 48 rfl) rfl rfl ?_
    exact x_ireturn (ty := .int) rfl rfl (x_at tdX12_ties 49 rfl) ⟨_, rfl, H⟩
  · have H := H.2 c
    refine x_iload_n (x_at tdX12_ties 21 rfl) rfl rfl ?_
    refine x_aload_n (x_at tdX12_ties 22 rfl) rfl rfl ?_
    refine x_iload (x_at tdX12_ties 23 rfl) rfl ?_
    refine x_cVi (as := [.int x4]) (rest := [.int x3]) mi_X12_isOn vc_12 (lM_0 h) (x_at tdX12_ties 24 rfl) wm_X12_469 rfl (Nat.le_of_ble_eq_true rfl) rfl H (fun r1 S1 H => ?_)
    refine x_if_eq 73 (x_at tdX12_ties 25 rfl) rfl (fun c => ?_) (fun c => ?_)
    · have H := H.1 c
      refine x_weak (lv' := [(0, .ref (x_ad (gM h) 0)), (1, .int x1), (2, .int x2), (4, .int x4)]) ⟨rfl, rfl, rfl, rfl, trivial⟩ ?_
      exact H
    · have H := H.2 c
      refine x_aload_n (x_at tdX12_ties 26 rfl) rfl rfl ?_
      refine gfM_0_41 (x_at tdX12_ties 27 rfl) wf_X12_90 ?_
      refine x_iload (x_at tdX12_ties 28 rfl) rfl ?_
      refine x_iald (lM_26 h) (x_at tdX12_ties 29 rfl) H.1 ?_
      have H := H.2
      refine x_iload_n (x_at tdX12_ties 30 rfl) rfl rfl ?_
      refine x_ic_ne 73 (x_at tdX12_ties 31 rfl) rfl (fun c => ?_) (fun c => ?_)
      · have H := H.1 c
        refine x_weak (lv' := [(0, .ref (x_ad (gM h) 0)), (1, .int x1), (2, .int x2), (4, .int x4)]) ⟨rfl, rfl, rfl, rfl, trivial⟩ ?_
        exact H
      · have H := H.2 c
        refine x_aload_n (x_at tdX12_ties 32 rfl) rfl rfl ?_
        refine gfM_0_42 (x_at tdX12_ties 33 rfl) wf_X12_93 ?_
        refine x_iload (x_at tdX12_ties 34 rfl) rfl ?_
        refine x_iald (lM_27 h) (x_at tdX12_ties 35 rfl) H.1 ?_
        have H := H.2
        refine x_iload_n (x_at tdX12_ties 36 rfl) rfl rfl ?_
        refine x_ic_ne 73 (x_at tdX12_ties 37 rfl) rfl (fun c => ?_) (fun c => ?_)
        · have H := H.1 c
          refine x_weak (lv' := [(0, .ref (x_ad (gM h) 0)), (1, .int x1), (2, .int x2), (4, .int x4)]) ⟨rfl, rfl, rfl, rfl, trivial⟩ ?_
          exact H
        · have H := H.2 c
          refine x_iconst (x_at tdX12_ties 38 rfl) k_c_1 ?_
          refine x_goto 74 (x_at tdX12_ties 39 rfl) rfl ?_
          refine x_weak (lv' := [(0, .ref (x_ad (gM h) 0)), (1, .int x1), (2, .int x2), (4, .int x4)]) ⟨rfl, rfl, rfl, rfl, trivial⟩ ?_
          exact H
theorem b_M_ties_73 {h : xH} {d : Nat}  {x1 : Int32} {x2 : Int32} {x4 : Int32} {s0 : Int32} {S : xSt} {K : Int32 → xSt → Prop}  (H : B_M_ties_74 h d x1 x2 x4 0 s0 S K) : B_M_ties_73 h d x1 x2 x4 s0 S K := by
  unfold B_M_ties_73
  refine x_iconst (x_at tdX12_ties 40 rfl) k_c_0 ?_
  refine x_weak (lv' := [(0, .ref (x_ad (gM h) 0)), (1, .int x1), (2, .int x2), (4, .int x4)]) ⟨rfl, rfl, rfl, rfl, trivial⟩ ?_
  exact H
theorem b_M_ties_74 {h : xH} {d : Nat}  {x1 : Int32} {x2 : Int32} {x4 : Int32} {s0 : Int32} {s1 : Int32} {S : xSt} {K : Int32 → xSt → Prop}  (H : M_M_truth h (d + 1) s0 S (fun (r1 : Int32) (S1 : xSt) => B_M_ties_28 h d x1 x2 (s1 ||| (r1 <<< (x4 &&& 31))) (x4 + 1) S1 K)) : B_M_ties_74 h d x1 x2 x4 s0 s1 S K := by
  unfold B_M_ties_74
  refine x_cSi (as := [.int s0]) (rest := [.int s1]) mi_X12_truth (x_at tdX12_ties 41 rfl) wm_X12_344 rfl (Nat.le_of_ble_eq_true rfl) rfl H (fun r1 S1 H => ?_)
  refine x_iload (x_at tdX12_ties 42 rfl) rfl ?_
  refine x_ishl (x_at tdX12_ties 43 rfl) ?_
  refine x_ior (x_at tdX12_ties 44 rfl) ?_
  refine x_istore_n (x_at tdX12_ties 45 rfl) rfl (by decide) ?_
  refine x_iinc (x_at tdX12_ties 46 rfl) rfl (k_inc_1 _) (by decide) ?_
  refine x_goto 28 (x_at tdX12_ties 47 rfl) rfl ?_
  refine x_weak (lv' := [(0, .ref (x_ad (gM h) 0)), (1, .int x1), (2, .int x2), (3, .int (s1 ||| (r1 <<< (x4 &&& 31)))), (4, .int (x4 + 1))]) ⟨rfl, rfl, rfl, rfl, rfl, trivial⟩ ?_
  exact H
theorem e_M_layCanKeep {h : xH} {d : Nat} {x1 : Int32} {S : xSt} {K : xSt → Prop}  (H : B_M_layCanKeep_2 h d x1 0 S K) : M_M_layCanKeep h d x1 S K := by
  refine x_enter pn_X12 (Nat.le_of_ble_eq_true rfl) ?_
  show X (gM h) _ _ 0 [(0, .ref (x_ad (gM h) 0)), (1, .int x1)] [] S _
  refine x_iconst (x_at tdX12_layCanKeep 0 rfl) k_c_0 ?_
  refine x_istore_n (x_at tdX12_layCanKeep 1 rfl) rfl (by decide) ?_
  refine x_weak (lv' := [(0, .ref (x_ad (gM h) 0)), (1, .int x1), (2, .int 0)]) ⟨rfl, rfl, rfl, trivial⟩ ?_
  exact H
theorem b_M_layCanKeep_2 {h : xH} {d : Nat}  {x1 : Int32} {x2 : Int32} {S : xSt} {K : xSt → Prop}  (H : ((1024 ≤ x2 → M_M_beginOrder h (d + 3) (x_putI S 0 80 (S.1 34 20)) (fun (S1 : xSt) => B_M_layCanKeep_45 h d x1 S1 K)) ∧ (¬ 1024 ≤ x2 → ((¬ x2 = 0 → B_M_layCanKeep_23 h d x1 x2 0 x2 S K) ∧ (x2 = 0 → B_M_layCanKeep_23 h d x1 x2 1 x2 S K))))) : B_M_layCanKeep_2 h d x1 x2 S K := by
  unfold B_M_layCanKeep_2
  refine x_iload_n (x_at tdX12_layCanKeep 2 rfl) rfl rfl ?_
  refine x_sipush (x_at tdX12_layCanKeep 3 rfl) k_s_1024 ?_
  refine x_ic_ge 30 (x_at tdX12_layCanKeep 4 rfl) rfl (fun c => ?_) (fun c => ?_)
  · have H := H.1 c
    refine x_aload_n (x_at tdX12_layCanKeep 16 rfl) rfl rfl ?_
    refine x_aload_n (x_at tdX12_layCanKeep 17 rfl) rfl rfl ?_
    refine gfM_0_67 (x_at tdX12_layCanKeep 18 rfl) wf_X12_118 ?_
    refine x_bipush (x_at tdX12_layCanKeep 19 rfl) k_b_20 ?_
    refine x_iald (lM_34 h) (x_at tdX12_layCanKeep 20 rfl) vi_20_24 ?_
    refine x_top (v := (S.1 34 20)) rfl ?_
    refine pfM_0_80 (x_at tdX12_layCanKeep 21 rfl) wf_X12_494 ?_
    refine x_aload_n (x_at tdX12_layCanKeep 22 rfl) rfl rfl ?_
    refine x_cVv (as := []) (rest := []) mi_X12_beginOrder vc_12 (lM_0 h) (x_at tdX12_layCanKeep 23 rfl) wm_X12_528 rfl (Nat.le_of_ble_eq_true rfl) rfl H (fun S1 H => ?_)
    refine x_weak (lv' := [(0, .ref (x_ad (gM h) 0)), (1, .int x1)]) ⟨rfl, rfl, trivial⟩ ?_
    exact H
  · have H := H.2 c
    refine x_aload_n (x_at tdX12_layCanKeep 5 rfl) rfl rfl ?_
    refine gfM_0_86 (x_at tdX12_layCanKeep 6 rfl) wf_X12_145 ?_
    refine x_iload_n (x_at tdX12_layCanKeep 7 rfl) rfl rfl ?_
    refine x_iload_n (x_at tdX12_layCanKeep 8 rfl) rfl rfl ?_
    refine x_if_ne 22 (x_at tdX12_layCanKeep 9 rfl) rfl (fun c => ?_) (fun c => ?_)
    · have H := H.1 c
      refine x_iconst (x_at tdX12_layCanKeep 12 rfl) k_c_0 ?_
      refine x_weak (lv' := [(0, .ref (x_ad (gM h) 0)), (1, .int x1), (2, .int x2)]) ⟨rfl, rfl, rfl, trivial⟩ ?_
      exact H
    · have H := H.2 c
      refine x_iconst (x_at tdX12_layCanKeep 10 rfl) k_c_1 ?_
      refine x_goto 23 (x_at tdX12_layCanKeep 11 rfl) rfl ?_
      refine x_weak (lv' := [(0, .ref (x_ad (gM h) 0)), (1, .int x1), (2, .int x2)]) ⟨rfl, rfl, rfl, trivial⟩ ?_
      exact H
theorem b_M_layCanKeep_23 {h : xH} {d : Nat}  {x1 : Int32} {x2 : Int32} {s0 : Int32} {s1 : Int32} {S : xSt} {K : xSt → Prop}  (H : (vp_in s1 1024 ∧ B_M_layCanKeep_2 h d x1 (x2 + 1) (x_putI S 43 (s1 : Int32).toNatClampNeg (vp_nar .boolean s0)) K)) : B_M_layCanKeep_23 h d x1 x2 s0 s1 S K := by
  unfold B_M_layCanKeep_23
  refine x_zast (lM_43 h) (x_at tdX12_layCanKeep 13 rfl) H.1 ?_
  have H := H.2
  refine x_iinc (x_at tdX12_layCanKeep 14 rfl) rfl (k_inc_1 _) (by decide) ?_
  refine x_goto 2 (x_at tdX12_layCanKeep 15 rfl) rfl ?_
  refine x_weak (lv' := [(0, .ref (x_ad (gM h) 0)), (1, .int x1), (2, .int (x2 + 1))]) ⟨rfl, rfl, rfl, trivial⟩ ?_
  exact H
theorem b_M_layCanKeep_45 {h : xH} {d : Nat}  {x1 : Int32} {S : xSt} {K : xSt → Prop}  (H : M_M_nextOrder h d x1 S (fun (r1 : Int32) (S1 : xSt) => ((r1 = 0 → B_M_layCanKeep_75 h d 1023 S1 K) ∧ (¬ r1 = 0 → (vp_in (S1.1 0 79) 7 ∧ (vp_in (S1.1 40 ((S1.1 0 79) : Int32).toNatClampNeg) 1024 ∧ B_M_layCanKeep_45 h d x1 (x_putI S1 43 ((S1.1 40 ((S1.1 0 79) : Int32).toNatClampNeg) : Int32).toNatClampNeg (vp_nar .boolean 1)) K)))))) : B_M_layCanKeep_45 h d x1 S K := by
  unfold B_M_layCanKeep_45
  refine x_aload_n (x_at tdX12_layCanKeep 24 rfl) rfl rfl ?_
  refine x_iload_n (x_at tdX12_layCanKeep 25 rfl) rfl rfl ?_
  refine x_cVi (as := [.int x1]) (rest := []) mi_X12_nextOrder vc_12 (lM_0 h) (x_at tdX12_layCanKeep 26 rfl) wm_X12_531 rfl (Nat.le_of_ble_eq_true rfl) rfl H (fun r1 S1 H => ?_)
  refine x_if_eq 71 (x_at tdX12_layCanKeep 27 rfl) rfl (fun c => ?_) (fun c => ?_)
  · have H := H.1 c
    refine x_sipush (x_at tdX12_layCanKeep 38 rfl) k_s_1023 ?_
    refine x_istore_n (x_at tdX12_layCanKeep 39 rfl) rfl (by decide) ?_
    refine x_weak (lv' := [(0, .ref (x_ad (gM h) 0)), (2, .int 1023)]) ⟨rfl, rfl, trivial⟩ ?_
    exact H
  · have H := H.2 c
    refine x_aload_n (x_at tdX12_layCanKeep 28 rfl) rfl rfl ?_
    refine gfM_0_86 (x_at tdX12_layCanKeep 29 rfl) wf_X12_145 ?_
    refine x_aload_n (x_at tdX12_layCanKeep 30 rfl) rfl rfl ?_
    refine gfM_0_77 (x_at tdX12_layCanKeep 31 rfl) wf_X12_136 ?_
    refine x_aload_n (x_at tdX12_layCanKeep 32 rfl) rfl rfl ?_
    refine gfM_0_79 (x_at tdX12_layCanKeep 33 rfl) wf_X12_497 ?_
    refine x_iald (lM_40 h) (x_at tdX12_layCanKeep 34 rfl) H.1 ?_
    have H := H.2
    refine x_iconst (x_at tdX12_layCanKeep 35 rfl) k_c_1 ?_
    refine x_zast (lM_43 h) (x_at tdX12_layCanKeep 36 rfl) H.1 ?_
    have H := H.2
    refine x_goto 45 (x_at tdX12_layCanKeep 37 rfl) rfl ?_
    refine x_weak (lv' := [(0, .ref (x_ad (gM h) 0)), (1, .int x1)]) ⟨rfl, rfl, trivial⟩ ?_
    exact H
theorem b_M_layCanKeep_75 {h : xH} {d : Nat}  {x2 : Int32} {S : xSt} {K : xSt → Prop}  (H : ((x2 ≤ 0 → K S) ∧ (¬ x2 ≤ 0 → (vp_in x2 1024 ∧ (((S.1 43 (x2 : Int32).toNatClampNeg) = 0 → B_M_layCanKeep_115 h d x2 S K) ∧ (¬ (S.1 43 (x2 : Int32).toNatClampNeg) = 0 → B_M_layCanKeep_90 h d x2 0 S K)))))) : B_M_layCanKeep_75 h d x2 S K := by
  unfold B_M_layCanKeep_75
  refine x_iload_n (x_at tdX12_layCanKeep 40 rfl) rfl rfl ?_
  refine x_if_le 121 (x_at tdX12_layCanKeep 41 rfl) rfl (fun c => ?_) (fun c => ?_)
  · have H := H.1 c
    exact x_return rfl (x_at tdX12_layCanKeep 67 rfl) ⟨rfl, H⟩
  · have H := H.2 c
    refine x_aload_n (x_at tdX12_layCanKeep 42 rfl) rfl rfl ?_
    refine gfM_0_86 (x_at tdX12_layCanKeep 43 rfl) wf_X12_145 ?_
    refine x_iload_n (x_at tdX12_layCanKeep 44 rfl) rfl rfl ?_
    refine x_zald (lM_43 h) (x_at tdX12_layCanKeep 45 rfl) H.1 ?_
    have H := H.2
    refine x_if_eq 115 (x_at tdX12_layCanKeep 46 rfl) rfl (fun c => ?_) (fun c => ?_)
    · have H := H.1 c
      refine x_weak (lv' := [(0, .ref (x_ad (gM h) 0)), (2, .int x2)]) ⟨rfl, rfl, trivial⟩ ?_
      exact H
    · have H := H.2 c
      refine x_iconst (x_at tdX12_layCanKeep 47 rfl) k_c_0 ?_
      refine x_istore_n (x_at tdX12_layCanKeep 48 rfl) rfl (by decide) ?_
      refine x_weak (lv' := [(0, .ref (x_ad (gM h) 0)), (2, .int x2), (3, .int 0)]) ⟨rfl, rfl, rfl, trivial⟩ ?_
      exact H
theorem b_M_layCanKeep_90 {h : xH} {d : Nat}  {x2 : Int32} {x3 : Int32} {S : xSt} {K : xSt → Prop}  (H : ((10 ≤ x3 → B_M_layCanKeep_115 h d x2 S K) ∧ (¬ 10 ≤ x3 → (vp_in (x2 &&& (((1 : Int32) <<< (x3 &&& 31)) ^^^ (-1 : Int32))) 1024 ∧ B_M_layCanKeep_90 h d x2 (x3 + 1) (x_putI S 43 ((x2 &&& (((1 : Int32) <<< (x3 &&& 31)) ^^^ (-1 : Int32))) : Int32).toNatClampNeg (vp_nar .boolean 1)) K)))) : B_M_layCanKeep_90 h d x2 x3 S K := by
  unfold B_M_layCanKeep_90
  refine x_iload_n (x_at tdX12_layCanKeep 49 rfl) rfl rfl ?_
  refine x_bipush (x_at tdX12_layCanKeep 50 rfl) k_b_10 ?_
  refine x_ic_ge 115 (x_at tdX12_layCanKeep 51 rfl) rfl (fun c => ?_) (fun c => ?_)
  · have H := H.1 c
    refine x_weak (lv' := [(0, .ref (x_ad (gM h) 0)), (2, .int x2)]) ⟨rfl, rfl, trivial⟩ ?_
    exact H
  · have H := H.2 c
    refine x_aload_n (x_at tdX12_layCanKeep 52 rfl) rfl rfl ?_
    refine gfM_0_86 (x_at tdX12_layCanKeep 53 rfl) wf_X12_145 ?_
    refine x_iload_n (x_at tdX12_layCanKeep 54 rfl) rfl rfl ?_
    refine x_iconst (x_at tdX12_layCanKeep 55 rfl) k_c_1 ?_
    refine x_iload_n (x_at tdX12_layCanKeep 56 rfl) rfl rfl ?_
    refine x_ishl (x_at tdX12_layCanKeep 57 rfl) ?_
    refine x_iconst (x_at tdX12_layCanKeep 58 rfl) k_c_m1 ?_
    refine x_ixor (x_at tdX12_layCanKeep 59 rfl) ?_
    refine x_iand (x_at tdX12_layCanKeep 60 rfl) ?_
    refine x_iconst (x_at tdX12_layCanKeep 61 rfl) k_c_1 ?_
    refine x_zast (lM_43 h) (x_at tdX12_layCanKeep 62 rfl) H.1 ?_
    have H := H.2
    refine x_iinc (x_at tdX12_layCanKeep 63 rfl) rfl (k_inc_1 _) (by decide) ?_
    refine x_goto 90 (x_at tdX12_layCanKeep 64 rfl) rfl ?_
    refine x_weak (lv' := [(0, .ref (x_ad (gM h) 0)), (2, .int x2), (3, .int (x3 + 1))]) ⟨rfl, rfl, rfl, trivial⟩ ?_
    exact H
theorem b_M_layCanKeep_115 {h : xH} {d : Nat}  {x2 : Int32} {S : xSt} {K : xSt → Prop}  (H : B_M_layCanKeep_75 h d (x2 + (-1)) S K) : B_M_layCanKeep_115 h d x2 S K := by
  unfold B_M_layCanKeep_115
  refine x_iinc (x_at tdX12_layCanKeep 65 rfl) rfl (k_inc_m1 _) (by decide) ?_
  refine x_goto 75 (x_at tdX12_layCanKeep 66 rfl) rfl ?_
  refine x_weak (lv' := [(0, .ref (x_ad (gM h) 0)), (2, .int (x2 + (-1)))]) ⟨rfl, rfl, trivial⟩ ?_
  exact H
end
