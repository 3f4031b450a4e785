section
theorem e_Tg_forgetAll {h : xH} {d : Nat}  {S : xSt} {K : xSt → Prop}  (H : K (x_putI S 57 6 0)) : M_Tg_forgetAll h d S K := by
  refine x_enter pn_X9 (Nat.le_of_ble_eq_true rfl) ?_
  show X (gC h) _ _ 0 [(0, .ref (x_ad (gC h) 57))] [] S _
  refine x_aload_n (x_at tdX9_forgetAll 0 rfl) rfl rfl ?_
  refine x_iconst (x_at tdX9_forgetAll 1 rfl) k_c_0 ?_
  refine pfC_57_6 (x_at tdX9_forgetAll 2 rfl) wf_X9_32 ?_
  exact x_return rfl (x_at tdX9_forgetAll 3 rfl) ⟨rfl, H⟩
theorem e_O_regiment {h : xH} {d : Nat}  {S : xSt} {K : Int32 → xSt → Prop}  (H : M_Rd_readText h d (S.1 0 1) S (fun (r1 : Int32) (S1 : xSt) => ((¬ r1 = 0 → M_Rg_takeOver_2 h (d + 76) (x_putI (x_putI (x_putI S1 0 1 0) 0 12 (S1.1 19 7)) 0 13 (S1.1 19 8)) (fun (S2 : xSt) => M_Co_sewAllAsTold h (d + 78) S2 (fun (S3 : xSt) => M_Hi_forgetActs h (d + 76) S3 (fun (S4 : xSt) => M_Hi_emptyBoxes h (d + 78) S4 (fun (S5 : xSt) => M_Tg_forgetAll h (d + 78) S5 (fun (S6 : xSt) => K (S6.1 2 6) (x_putI S6 0 11 0))))))) ∧ (r1 = 0 → K (-1) (x_putI (x_putI (x_putI S1 0 1 0) 0 12 (S1.1 19 7)) 0 13 (S1.1 19 8)))))) : M_O_regiment h d S K := by
  refine x_enter pn_X11 (Nat.le_of_ble_eq_true rfl) ?_
  show X (gC h) _ _ 0 [(0, .ref (x_ad (gC h) 0))] [] S _
  refine x_aload_n (x_at tdX11_regiment 0 rfl) rfl rfl ?_
  refine gfC_0_3 (x_at tdX11_regiment 1 rfl) wf_X11_23 ?_
  refine x_aload_n (x_at tdX11_regiment 2 rfl) rfl rfl ?_
  refine gfC_0_0 (x_at tdX11_regiment 3 rfl) wf_X11_9 ?_
  refine x_aload_n (x_at tdX11_regiment 4 rfl) rfl rfl ?_
  refine gfC_0_1 (x_at tdX11_regiment 5 rfl) wf_X11_89 ?_
  refine x_cVi (as := [.ref (x_ad (gC h) 1), .int (S.1 0 1)]) (rest := []) mi_X4_readText vc_4 (lC_18 h) (x_at tdX11_regiment 6 rfl) wm_X11_96 rfl (Nat.le_of_ble_eq_true rfl) rfl H (fun r1 S1 H => ?_)
  refine x_istore_n (x_at tdX11_regiment 7 rfl) rfl (by decide) ?_
  refine x_aload_n (x_at tdX11_regiment 8 rfl) rfl rfl ?_
  refine x_iconst (x_at tdX11_regiment 9 rfl) k_c_0 ?_
  refine pfC_0_1 (x_at tdX11_regiment 10 rfl) wf_X11_89 ?_
  refine x_aload_n (x_at tdX11_regiment 11 rfl) rfl rfl ?_
  refine x_aload_n (x_at tdX11_regiment 12 rfl) rfl rfl ?_
  refine gfC_0_3 (x_at tdX11_regiment 13 rfl) wf_X11_23 ?_
  refine gfC_18_0 (x_at tdX11_regiment 14 rfl) wf_X11_100 ?_
  refine gfC_19_7 (x_at tdX11_regiment 15 rfl) wf_X11_104 ?_
  refine x_top (v := (S1.1 19 7)) rfl ?_
  refine pfC_0_12 (x_at tdX11_regiment 16 rfl) wf_X11_109 ?_
  refine x_aload_n (x_at tdX11_regiment 17 rfl) rfl rfl ?_
  refine x_aload_n (x_at tdX11_regiment 18 rfl) rfl rfl ?_
  refine gfC_0_3 (x_at tdX11_regiment 19 rfl) wf_X11_23 ?_
  refine gfC_18_0 (x_at tdX11_regiment 20 rfl) wf_X11_100 ?_
  refine gfC_19_8 (x_at tdX11_regiment 21 rfl) wf_X11_110 ?_
  refine x_top (v := (S1.1 19 8)) rfl ?_
  refine pfC_0_13 (x_at tdX11_regiment 22 rfl) wf_X11_79 ?_
  refine x_iload_n (x_at tdX11_regiment 23 rfl) rfl rfl ?_
  refine x_if_ne 55 (x_at tdX11_regiment 24 rfl) rfl (fun c => ?_) (fun c => ?_)
  · have H := H.1 c
    refine x_aload_n (x_at tdX11_regiment 27 rfl) rfl rfl ?_
    refine gfC_0_2 (x_at tdX11_regiment 28 rfl) wf_X11_16 ?_
    refine x_aload_n (x_at tdX11_regiment 29 rfl) rfl rfl ?_
    refine gfC_0_3 (x_at tdX11_regiment 30 rfl) wf_X11_23 ?_
    refine gfC_18_1 (x_at tdX11_regiment 31 rfl) wf_X11_111 ?_
    refine x_cVv (as := [.ref (x_ad (gC h) 21)]) (rest := []) mi_X5_takeOver vc_5 (lC_2 h) (x_at tdX11_regiment 32 rfl) wm_X11_114 rfl (Nat.le_of_ble_eq_true rfl) rfl H (fun S2 H => ?_)
    refine x_aload_n (x_at tdX11_regiment 33 rfl) rfl rfl ?_
    refine gfC_0_4 (x_at tdX11_regiment 34 rfl) wf_X11_32 ?_
    refine x_cVv (as := []) (rest := []) mi_X0_sewAllAsTold vc_0 (lC_41 h) (x_at tdX11_regiment 35 rfl) wm_X11_83 rfl (Nat.le_of_ble_eq_true rfl) rfl H (fun S3 H => ?_)
    refine x_aload_n (x_at tdX11_regiment 36 rfl) rfl rfl ?_
    refine gfC_0_5 (x_at tdX11_regiment 37 rfl) wf_X11_41 ?_
    refine x_cVv (as := []) (rest := []) mi_X2_forgetActs vc_2 (lC_43 h) (x_at tdX11_regiment 38 rfl) wm_X11_86 rfl (Nat.le_of_ble_eq_true rfl) rfl H (fun S4 H => ?_)
    refine x_aload_n (x_at tdX11_regiment 39 rfl) rfl rfl ?_
    refine gfC_0_5 (x_at tdX11_regiment 40 rfl) wf_X11_41 ?_
    refine x_cVv (as := []) (rest := []) mi_X2_emptyBoxes vc_2 (lC_43 h) (x_at tdX11_regiment 41 rfl) wm_X11_117 rfl (Nat.le_of_ble_eq_true rfl) rfl H (fun S5 H => ?_)
    refine x_aload_n (x_at tdX11_regiment 42 rfl) rfl rfl ?_
    refine gfC_0_9 (x_at tdX11_regiment 43 rfl) wf_X11_71 ?_
    refine x_cVv (as := []) (rest := []) mi_X9_forgetAll vc_9 (lC_57 h) (x_at tdX11_regiment 44 rfl) wm_X11_120 rfl (Nat.le_of_ble_eq_true rfl) rfl H (fun S6 H => ?_)
    refine x_aload_n (x_at tdX11_regiment 45 rfl) rfl rfl ?_
    refine x_iconst (x_at tdX11_regiment 46 rfl) k_c_0 ?_
    refine pfC_0_11 (x_at tdX11_regiment 47 rfl) wf_X11_123 ?_
    refine x_aload_n (x_at tdX11_regiment 48 rfl) rfl rfl ?_
    refine gfC_0_2 (x_at tdX11_regiment 49 rfl) wf_X11_16 ?_
    refine gfC_2_6 (x_at tdX11_regiment 50 rfl) wf_X11_126 ?_
    refine x_top (v := (S6.1 2 6)) rfl ?_
    exact x_ireturn (ty := .int) rfl rfl (x_at tdX11_regiment 51 rfl) ⟨_, rfl, H⟩
  · have H := H.2 c
    refine x_iconst (x_at tdX11_regiment 25 rfl) k_c_m1 ?_
    exact x_ireturn (ty := .int) rfl rfl (x_at tdX11_regiment 26 rfl) ⟨_, rfl, H⟩
theorem e_O_fault {h : xH} {d : Nat} {x1 : Int32} {S : xSt} {K : Int32 → xSt → Prop}  (H : ((¬ x1 = 0 → ((¬ x1 = 1 → K (-1) S) ∧ (x1 = 1 → K (S.1 0 13) S))) ∧ (x1 = 0 → K (S.1 0 12) S))) : M_O_fault h d x1 S K := by
  refine x_enter pn_X11 (Nat.le_of_ble_eq_true rfl) ?_
  show X (gC h) _ _ 0 [(0, .ref (x_ad (gC h) 0)), (1, .int x1)] [] S _
  refine x_iload_n (x_at tdX11_fault 0 rfl) rfl rfl ?_
  refine x_if_ne 9 (x_at tdX11_fault 1 rfl) rfl (fun c => ?_) (fun c => ?_)
  · have H := H.1 c
    refine x_iload_n (x_at tdX11_fault 5 rfl) rfl rfl ?_
    refine x_iconst (x_at tdX11_fault 6 rfl) k_c_1 ?_
    refine x_ic_ne 21 (x_at tdX11_fault 7 rfl) rfl (fun c => ?_) (fun c => ?_)
    · have H := H.1 c
      refine x_iconst (x_at tdX11_fault 11 rfl) k_c_m1 ?_
      exact x_ireturn (ty := .int) rfl rfl (x_at tdX11_fault 12 rfl) ⟨_, rfl, H⟩
    · have H := H.2 c
      refine x_aload_n (x_at tdX11_fault 8 rfl) rfl rfl ?_
      refine gfC_0_13 (x_at tdX11_fault 9 rfl) wf_X11_79 ?_
      refine x_goto 22 (x_at tdX11_fault 10 rfl) rfl ?_
      exact x_ireturn (ty := .int) rfl rfl (x_at tdX11_fault 12 rfl) ⟨_, rfl, H⟩
  · have H := H.2 c
    refine x_aload_n (x_at tdX11_fault 2 rfl) rfl rfl ?_
    refine gfC_0_12 (x_at tdX11_fault 3 rfl) wf_X11_109 ?_
    exact x_ireturn (ty := .int) rfl rfl (x_at tdX11_fault 4 rfl) ⟨_, rfl, H⟩
theorem e_Co_stateOf {h : xH} {d : Nat} {x1 : Int32} {S : xSt} {K : Int32 → xSt → Prop}  (H : (vp_in x1 23 ∧ K (S.1 42 (x1 : Int32).toNatClampNeg) S)) : M_Co_stateOf h d x1 S K := by
  refine x_enter pn_X0 (Nat.le_of_ble_eq_true rfl) ?_
  show X (gC h) _ _ 0 [(0, .ref (x_ad (gC h) 41)), (1, .int x1)] [] S _
  refine x_aload_n (x_at tdX0_stateOf 0 rfl) rfl rfl ?_
  refine gfC_41_1 (x_at tdX0_stateOf 1 rfl) wf_X0_11 ?_
  refine x_iload_n (x_at tdX0_stateOf 2 rfl) rfl rfl ?_
  refine x_iald (lC_42 h) (x_at tdX0_stateOf 3 rfl) H.1 ?_
  have H := H.2
  exact x_ireturn (ty := .int) rfl rfl (x_at tdX0_stateOf 4 rfl) ⟨_, rfl, H⟩
theorem e_Co_threadOf {h : xH} {d : Nat} {x1 : Int32} {S : xSt} {K : Int32 → xSt → Prop}  (H : (vp_in ((10 : Int32) + x1) 23 ∧ K (S.1 42 (((10 : Int32) + x1) : Int32).toNatClampNeg) S)) : M_Co_threadOf h d x1 S K := by
  refine x_enter pn_X0 (Nat.le_of_ble_eq_true rfl) ?_
  show X (gC h) _ _ 0 [(0, .ref (x_ad (gC h) 41)), (1, .int x1)] [] S _
  refine x_aload_n (x_at tdX0_threadOf 0 rfl) rfl rfl ?_
  refine gfC_41_1 (x_at tdX0_threadOf 1 rfl) wf_X0_11 ?_
  refine x_bipush (x_at tdX0_threadOf 2 rfl) k_b_10 ?_
  refine x_iload_n (x_at tdX0_threadOf 3 rfl) rfl rfl ?_
  refine x_iadd (x_at tdX0_threadOf 4 rfl) ?_
  refine x_iald (lC_42 h) (x_at tdX0_threadOf 5 rfl) H.1 ?_
  have H := H.2
  exact x_ireturn (ty := .int) rfl rfl (x_at tdX0_threadOf 6 rfl) ⟨_, rfl, H⟩
theorem e_Rg_hasButton_2 {h : xH} {d : Nat} {x1 : Int32} {S : xSt} {K : Int32 → xSt → Prop}  (H : ((x1 < 0 → K 0 S) ∧ (¬ x1 < 0 → (((S.1 2 6) ≤ x1 → K 0 S) ∧ (¬ (S.1 2 6) ≤ x1 → K 1 S))))) : M_Rg_hasButton_2 h d x1 S K := by
  refine x_enter pn_X5 (Nat.le_of_ble_eq_true rfl) ?_
  show X (gC h) _ _ 0 [(0, .ref (x_ad (gC h) 2)), (1, .int x1)] [] S _
  refine x_iload_n (x_at tdX5_hasButton 0 rfl) rfl rfl ?_
  refine x_if_lt 16 (x_at tdX5_hasButton 1 rfl) rfl (fun c => ?_) (fun c => ?_)
  · have H := H.1 c
    refine x_iconst (x_at tdX5_hasButton 8 rfl) k_c_0 ?_
    exact x_ireturn (ty := .boolean) rfl zb0.1 (x_at tdX5_hasButton 9 rfl) ⟨_, rfl, H⟩
  · have H := H.2 c
    refine x_iload_n (x_at tdX5_hasButton 2 rfl) rfl rfl ?_
    refine x_aload_n (x_at tdX5_hasButton 3 rfl) rfl rfl ?_
    refine gfC_2_6 (x_at tdX5_hasButton 4 rfl) wf_X5_65 ?_
    refine x_ic_ge 16 (x_at tdX5_hasButton 5 rfl) rfl (fun c => ?_) (fun c => ?_)
    · have H := H.1 c
      refine x_iconst (x_at tdX5_hasButton 8 rfl) k_c_0 ?_
      exact x_ireturn (ty := .boolean) rfl zb0.1 (x_at tdX5_hasButton 9 rfl) ⟨_, rfl, H⟩
    · have H := H.2 c
      refine x_iconst (x_at tdX5_hasButton 6 rfl) k_c_1 ?_
      refine x_goto 17 (x_at tdX5_hasButton 7 rfl) rfl ?_
      exact x_ireturn (ty := .boolean) rfl zb1.1 (x_at tdX5_hasButton 9 rfl) ⟨_, rfl, H⟩
theorem e_O_button {h : xH} {d : Nat} {x1 : Int32} {x2 : Int32} {S : xSt} {K : Int32 → xSt → Prop}  (H : M_Rg_hasButton_2 h d x1 S (fun (r1 : Int32) (S1 : xSt) => ((¬ r1 = 0 → (((x2.toInt < 0 ∨ 7 < x2.toInt) → K (-2) S1) ∧ (x2 = 0 → M_Co_stateOf h d x1 S1 (fun (r2 : Int32) (S2 : xSt) => K r2 S2)) ∧ (x2 = 1 → M_Co_threadOf h d x1 S1 (fun (r3 : Int32) (S3 : xSt) => K r3 S3)) ∧ (x2 = 2 → (vp_in x1 10 ∧ K (S1.1 7 (x1 : Int32).toNatClampNeg) S1)) ∧ (x2 = 3 → (vp_in x1 10 ∧ K (S1.1 8 (x1 : Int32).toNatClampNeg) S1)) ∧ (x2 = 4 → (vp_in x1 10 ∧ K (S1.1 9 (x1 : Int32).toNatClampNeg) S1)) ∧ (x2 = 5 → (vp_in x1 10 ∧ K (S1.1 10 (x1 : Int32).toNatClampNeg) S1)) ∧ (x2 = 6 → (vp_in x1 10 ∧ K (S1.1 11 (x1 : Int32).toNatClampNeg) S1)) ∧ (x2 = 7 → (vp_in x1 10 ∧ K (S1.1 13 (x1 : Int32).toNatClampNeg) S1)))) ∧ (r1 = 0 → K (-2) S1)))) : M_O_button h d x1 x2 S K := by
  refine x_enter pn_X11 (Nat.le_of_ble_eq_true rfl) ?_
  show X (gC h) _ _ 0 [(0, .ref (x_ad (gC h) 0)), (1, .int x1), (2, .int x2)] [] S _
  refine x_aload_n (x_at tdX11_button 0 rfl) rfl rfl ?_
  refine gfC_0_2 (x_at tdX11_button 1 rfl) wf_X11_16 ?_
  refine x_iload_n (x_at tdX11_button 2 rfl) rfl rfl ?_
  refine x_cVi (as := [.int x1]) (rest := []) mi_X5_hasButton vc_5 (lC_2 h) (x_at tdX11_button 3 rfl) wm_X11_129 rfl (Nat.le_of_ble_eq_true rfl) rfl H (fun r1 S1 H => ?_)
  refine x_if_ne 14 (x_at tdX11_button 4 rfl) rfl (fun c => ?_) (fun c => ?_)
  · have H := H.1 c
    refine x_iload_n (x_at tdX11_button 7 rfl) rfl rfl ?_
    by_cases hq : (x2 : Int32).toInt < 0 ∨ 7 < (x2 : Int32).toInt
    · refine x_tableOut 138 (x_at tdX11_button 8 rfl) hq rfl ?_
      have H := H.1 hq
      refine x_bipush (x_at tdX11_button 55 rfl) k_b_m2 ?_
      exact x_ireturn (ty := .int) rfl rfl (x_at tdX11_button 56 rfl) ⟨_, rfl, H⟩
    · rcases sw_in_0_7 hq with hx | hx | hx | hx | hx | hx | hx | hx
      · refine x_tsw 60 (x_at tdX11_button 8 rfl) hx (by decide) (by decide) rfl rfl ?_
        have H := H.2.1 hx
        refine x_aload_n (x_at tdX11_button 9 rfl) rfl rfl ?_
        refine gfC_0_4 (x_at tdX11_button 10 rfl) wf_X11_32 ?_
        refine x_iload_n (x_at tdX11_button 11 rfl) rfl rfl ?_
        refine x_cVi (as := [.int x1]) (rest := []) mi_X0_stateOf vc_0 (lC_41 h) (x_at tdX11_button 12 rfl) wm_X11_133 rfl (Nat.le_of_ble_eq_true rfl) rfl H (fun r2 S2 H => ?_)
        exact x_ireturn (ty := .int) rfl rfl (x_at tdX11_button 13 rfl) ⟨_, rfl, H⟩
      · refine x_tsw 69 (x_at tdX11_button 8 rfl) hx (by decide) (by decide) rfl rfl ?_
        have H := H.2.2.1 hx
        refine x_aload_n (x_at tdX11_button 14 rfl) rfl rfl ?_
        refine gfC_0_4 (x_at tdX11_button 15 rfl) wf_X11_32 ?_
        refine x_iload_n (x_at tdX11_button 16 rfl) rfl rfl ?_
        refine x_cVi (as := [.int x1]) (rest := []) mi_X0_threadOf vc_0 (lC_41 h) (x_at tdX11_button 17 rfl) wm_X11_137 rfl (Nat.le_of_ble_eq_true rfl) rfl H (fun r3 S3 H => ?_)
        exact x_ireturn (ty := .int) rfl rfl (x_at tdX11_button 18 rfl) ⟨_, rfl, H⟩
      · refine x_tsw 78 (x_at tdX11_button 8 rfl) hx (by decide) (by decide) rfl rfl ?_
        have H := H.2.2.2.1 hx
        refine x_aload_n (x_at tdX11_button 19 rfl) rfl rfl ?_
        refine gfC_0_2 (x_at tdX11_button 20 rfl) wf_X11_16 ?_
        refine gfC_2_7 (x_at tdX11_button 21 rfl) wf_X11_140 ?_
        refine x_iload_n (x_at tdX11_button 22 rfl) rfl rfl ?_
        refine x_iald (lC_7 h) (x_at tdX11_button 23 rfl) H.1 ?_
        have H := H.2
        exact x_ireturn (ty := .int) rfl rfl (x_at tdX11_button 24 rfl) ⟨_, rfl, H⟩
      · refine x_tsw 88 (x_at tdX11_button 8 rfl) hx (by decide) (by decide) rfl rfl ?_
        have H := H.2.2.2.2.1 hx
        refine x_aload_n (x_at tdX11_button 25 rfl) rfl rfl ?_
        refine gfC_0_2 (x_at tdX11_button 26 rfl) wf_X11_16 ?_
        refine gfC_2_8 (x_at tdX11_button 27 rfl) wf_X11_143 ?_
        refine x_iload_n (x_at tdX11_button 28 rfl) rfl rfl ?_
        refine x_iald (lC_8 h) (x_at tdX11_button 29 rfl) H.1 ?_
        have H := H.2
        exact x_ireturn (ty := .int) rfl rfl (x_at tdX11_button 30 rfl) ⟨_, rfl, H⟩
      · refine x_tsw 98 (x_at tdX11_button 8 rfl) hx (by decide) (by decide) rfl rfl ?_
        have H := H.2.2.2.2.2.1 hx
        refine x_aload_n (x_at tdX11_button 31 rfl) rfl rfl ?_
        refine gfC_0_2 (x_at tdX11_button 32 rfl) wf_X11_16 ?_
        refine gfC_2_9 (x_at tdX11_button 33 rfl) wf_X11_146 ?_
        refine x_iload_n (x_at tdX11_button 34 rfl) rfl rfl ?_
        refine x_iald (lC_9 h) (x_at tdX11_button 35 rfl) H.1 ?_
        have H := H.2
        exact x_ireturn (ty := .int) rfl rfl (x_at tdX11_button 36 rfl) ⟨_, rfl, H⟩
      · refine x_tsw 108 (x_at tdX11_button 8 rfl) hx (by decide) (by decide) rfl rfl ?_
        have H := H.2.2.2.2.2.2.1 hx
        refine x_aload_n (x_at tdX11_button 37 rfl) rfl rfl ?_
        refine gfC_0_2 (x_at tdX11_button 38 rfl) wf_X11_16 ?_
        refine gfC_2_10 (x_at tdX11_button 39 rfl) wf_X11_149 ?_
        refine x_iload_n (x_at tdX11_button 40 rfl) rfl rfl ?_
        refine x_iald (lC_10 h) (x_at tdX11_button 41 rfl) H.1 ?_
        have H := H.2
        exact x_ireturn (ty := .int) rfl rfl (x_at tdX11_button 42 rfl) ⟨_, rfl, H⟩
      · refine x_tsw 118 (x_at tdX11_button 8 rfl) hx (by decide) (by decide) rfl rfl ?_
        have H := H.2.2.2.2.2.2.2.1 hx
        refine x_aload_n (x_at tdX11_button 43 rfl) rfl rfl ?_
        refine gfC_0_2 (x_at tdX11_button 44 rfl) wf_X11_16 ?_
        refine gfC_2_11 (x_at tdX11_button 45 rfl) wf_X11_152 ?_
        refine x_iload_n (x_at tdX11_button 46 rfl) rfl rfl ?_
        refine x_iald (lC_11 h) (x_at tdX11_button 47 rfl) H.1 ?_
        have H := H.2
        exact x_ireturn (ty := .int) rfl rfl (x_at tdX11_button 48 rfl) ⟨_, rfl, H⟩
      · refine x_tsw 128 (x_at tdX11_button 8 rfl) hx (by decide) (by decide) rfl rfl ?_
        have H := H.2.2.2.2.2.2.2.2 hx
        refine x_aload_n (x_at tdX11_button 49 rfl) rfl rfl ?_
        refine gfC_0_2 (x_at tdX11_button 50 rfl) wf_X11_16 ?_
        refine gfC_2_13 (x_at tdX11_button 51 rfl) wf_X11_155 ?_
        refine x_iload_n (x_at tdX11_button 52 rfl) rfl rfl ?_
        refine x_iald (lC_13 h) (x_at tdX11_button 53 rfl) H.1 ?_
        have H := H.2
        exact x_ireturn (ty := .int) rfl rfl (x_at tdX11_button 54 rfl) ⟨_, rfl, H⟩
  · have H := H.2 c
    refine x_bipush (x_at tdX11_button 5 rfl) k_b_m2 ?_
    exact x_ireturn (ty := .int) rfl rfl (x_at tdX11_button 6 rfl) ⟨_, rfl, H⟩
theorem e_Rg_hasMan_2 {h : xH} {d : Nat} {x1 : Int32} {S : xSt} {K : Int32 → xSt → Prop}  (H : ((x1 < 0 → K 0 S) ∧ (¬ x1 < 0 → (((S.1 2 0) ≤ x1 → K 0 S) ∧ (¬ (S.1 2 0) ≤ x1 → K 1 S))))) : M_Rg_hasMan_2 h d x1 S K := by
  refine x_enter pn_X5 (Nat.le_of_ble_eq_true rfl) ?_
  show X (gC h) _ _ 0 [(0, .ref (x_ad (gC h) 2)), (1, .int x1)] [] S _
  refine x_iload_n (x_at tdX5_hasMan 0 rfl) rfl rfl ?_
  refine x_if_lt 16 (x_at tdX5_hasMan 1 rfl) rfl (fun c => ?_) (fun c => ?_)
  · have H := H.1 c
    refine x_iconst (x_at tdX5_hasMan 8 rfl) k_c_0 ?_
    exact x_ireturn (ty := .boolean) rfl zb0.1 (x_at tdX5_hasMan 9 rfl) ⟨_, rfl, H⟩
  · have H := H.2 c
    refine x_iload_n (x_at tdX5_hasMan 2 rfl) rfl rfl ?_
    refine x_aload_n (x_at tdX5_hasMan 3 rfl) rfl rfl ?_
    refine gfC_2_0 (x_at tdX5_hasMan 4 rfl) wf_X5_58 ?_
    refine x_ic_ge 16 (x_at tdX5_hasMan 5 rfl) rfl (fun c => ?_) (fun c => ?_)
    · have H := H.1 c
      refine x_iconst (x_at tdX5_hasMan 8 rfl) k_c_0 ?_
      exact x_ireturn (ty := .boolean) rfl zb0.1 (x_at tdX5_hasMan 9 rfl) ⟨_, rfl, H⟩
    · have H := H.2 c
      refine x_iconst (x_at tdX5_hasMan 6 rfl) k_c_1 ?_
      refine x_goto 17 (x_at tdX5_hasMan 7 rfl) rfl ?_
      exact x_ireturn (ty := .boolean) rfl zb1.1 (x_at tdX5_hasMan 9 rfl) ⟨_, rfl, H⟩
theorem e_O_coat {h : xH} {d : Nat} {x1 : Int32} {x2 : Int32} {S : xSt} {K : Int32 → xSt → Prop}  (H : M_Rg_hasMan_2 h d x1 S (fun (r1 : Int32) (S1 : xSt) => ((r1 = 0 → K (-1) S1) ∧ (¬ r1 = 0 → ((x2 < 0 → K (-1) S1) ∧ (¬ x2 < 0 → ((x2 ≤ 3 → B_O_coat_27 h d x1 x2 0 0 S1 K) ∧ (¬ x2 ≤ 3 → K (-1) S1)))))))) : M_O_coat h d x1 x2 S K := by
  refine x_enter pn_X11 (Nat.le_of_ble_eq_true rfl) ?_
  show X (gC h) _ _ 0 [(0, .ref (x_ad (gC h) 0)), (1, .int x1), (2, .int x2)] [] S _
  refine x_aload_n (x_at tdX11_coat 0 rfl) rfl rfl ?_
  refine gfC_0_2 (x_at tdX11_coat 1 rfl) wf_X11_16 ?_
  refine x_iload_n (x_at tdX11_coat 2 rfl) rfl rfl ?_
  refine x_cVi (as := [.int x1]) (rest := []) mi_X5_hasMan vc_5 (lC_2 h) (x_at tdX11_coat 3 rfl) wm_X11_158 rfl (Nat.le_of_ble_eq_true rfl) rfl H (fun r1 S1 H => ?_)
  refine x_if_eq 20 (x_at tdX11_coat 4 rfl) rfl (fun c => ?_) (fun c => ?_)
  · have H := H.1 c
    refine x_iconst (x_at tdX11_coat 10 rfl) k_c_m1 ?_
    exact x_ireturn (ty := .int) rfl rfl (x_at tdX11_coat 11 rfl) ⟨_, rfl, H⟩
  · have H := H.2 c
    refine x_iload_n (x_at tdX11_coat 5 rfl) rfl rfl ?_
    refine x_if_lt 20 (x_at tdX11_coat 6 rfl) rfl (fun c => ?_) (fun c => ?_)
    · have H := H.1 c
      refine x_iconst (x_at tdX11_coat 10 rfl) k_c_m1 ?_
      exact x_ireturn (ty := .int) rfl rfl (x_at tdX11_coat 11 rfl) ⟨_, rfl, H⟩
    · have H := H.2 c
      refine x_iload_n (x_at tdX11_coat 7 rfl) rfl rfl ?_
      refine x_iconst (x_at tdX11_coat 8 rfl) k_c_3 ?_
      refine x_ic_le 22 (x_at tdX11_coat 9 rfl) rfl (fun c => ?_) (fun c => ?_)
      · have H := H.1 c
        refine x_iconst (x_at tdX11_coat 12 rfl) k_c_0 ?_
        refine x_istore_n (x_at tdX11_coat 13 rfl) rfl (by decide) ?_
        refine x_iconst (x_at tdX11_coat 14 rfl) k_c_0 ?_
        refine x_istore (x_at tdX11_coat 15 rfl) (by decide) ?_
        refine x_weak (lv' := [(0, .ref (x_ad (gC h) 0)), (1, .int x1), (2, .int x2), (3, .int 0), (4, .int 0)]) ⟨rfl, rfl, rfl, rfl, rfl, trivial⟩ ?_
        exact H
      · have H := H.2 c
        refine x_iconst (x_at tdX11_coat 10 rfl) k_c_m1 ?_
        exact x_ireturn (ty := .int) rfl rfl (x_at tdX11_coat 11 rfl) ⟨_, rfl, H⟩
theorem b_O_coat_27 {h : xH} {d : Nat}  {x1 : Int32} {x2 : Int32} {x3 : Int32} {x4 : Int32} {S : xSt} {K : Int32 → xSt → Prop}  (H : (((S.1 2 6) ≤ x4 → K x3 S) ∧ (¬ (S.1 2 6) ≤ x4 → ((¬ x2 = 1 → (vp_in x4 10 ∧ B_O_coat_67 h d x1 x2 x3 x4 (S.1 7 (x4 : Int32).toNatClampNeg) S K)) ∧ (x2 = 1 → (vp_in x4 10 ∧ B_O_coat_67 h d x1 x2 x3 x4 (S.1 8 (x4 : Int32).toNatClampNeg) S K)))))) : B_O_coat_27 h d x1 x2 x3 x4 S K := by
  unfold B_O_coat_27
  refine x_iload (x_at tdX11_coat 16 rfl) rfl ?_
  refine x_aload_n (x_at tdX11_coat 17 rfl) rfl rfl ?_
  refine gfC_0_2 (x_at tdX11_coat 18 rfl) wf_X11_16 ?_
  refine gfC_2_6 (x_at tdX11_coat 19 rfl) wf_X11_126 ?_
  refine x_ic_ge 123 (x_at tdX11_coat 20 rfl) rfl (fun c => ?_) (fun c => ?_)
  · have H := H.1 c
    refine x_iload_n (x_at tdX11_coat 65 rfl) rfl rfl ?_
    exact x_ireturn (ty := .int) rfl rfl (x_at tdX11_coat 66 rfl) ⟨_, rfl, H⟩
  · have H := H.2 c
    refine x_iload_n (x_at tdX11_coat 21 rfl) rfl rfl ?_
    refine x_iconst (x_at tdX11_coat 22 rfl) k_c_1 ?_
    refine x_ic_ne 57 (x_at tdX11_coat 23 rfl) rfl (fun c => ?_) (fun c => ?_)
    · have H := H.1 c
      refine x_aload_n (x_at tdX11_coat 30 rfl) rfl rfl ?_
      refine gfC_0_2 (x_at tdX11_coat 31 rfl) wf_X11_16 ?_
      refine gfC_2_7 (x_at tdX11_coat 32 rfl) wf_X11_140 ?_
      refine x_iload (x_at tdX11_coat 33 rfl) rfl ?_
      refine x_iald (lC_7 h) (x_at tdX11_coat 34 rfl) H.1 ?_
      have H := H.2
      refine x_weak (lv' := [(0, .ref (x_ad (gC h) 0)), (1, .int x1), (2, .int x2), (3, .int x3), (4, .int x4)]) ⟨rfl, rfl, rfl, rfl, rfl, trivial⟩ ?_
      exact H
    · have H := H.2 c
      refine x_aload_n (x_at tdX11_coat 24 rfl) rfl rfl ?_
      refine gfC_0_2 (x_at tdX11_coat 25 rfl) wf_X11_16 ?_
      refine gfC_2_8 (x_at tdX11_coat 26 rfl) wf_X11_143 ?_
      refine x_iload (x_at tdX11_coat 27 rfl) rfl ?_
      refine x_iald (lC_8 h) (x_at tdX11_coat 28 rfl) H.1 ?_
      have H := H.2
      refine x_goto 67 (x_at tdX11_coat 29 rfl) rfl ?_
      refine x_weak (lv' := [(0, .ref (x_ad (gC h) 0)), (1, .int x1), (2, .int x2), (3, .int x3), (4, .int x4)]) ⟨rfl, rfl, rfl, rfl, rfl, trivial⟩ ?_
      exact H
theorem b_O_coat_67 {h : xH} {d : Nat}  {x1 : Int32} {x2 : Int32} {x3 : Int32} {x4 : Int32} {s0 : Int32} {S : xSt} {K : Int32 → xSt → Prop}  (H : ((¬ x2 = 2 → ((¬ x2 = 3 → B_O_coat_88 h d x1 x2 x3 x4 s0 0 S K) ∧ (x2 = 3 → B_O_coat_88 h d x1 x2 x3 x4 s0 4 S K))) ∧ (x2 = 2 → B_O_coat_88 h d x1 x2 x3 x4 s0 3 S K))) : B_O_coat_67 h d x1 x2 x3 x4 s0 S K := by
  unfold B_O_coat_67
  refine x_istore (x_at tdX11_coat 35 rfl) (by decide) ?_
  refine x_iload_n (x_at tdX11_coat 36 rfl) rfl rfl ?_
  refine x_iconst (x_at tdX11_coat 37 rfl) k_c_2 ?_
  refine x_ic_ne 78 (x_at tdX11_coat 38 rfl) rfl (fun c => ?_) (fun c => ?_)
  · have H := H.1 c
    refine x_iload_n (x_at tdX11_coat 41 rfl) rfl rfl ?_
    refine x_iconst (x_at tdX11_coat 42 rfl) k_c_3 ?_
    refine x_ic_ne 87 (x_at tdX11_coat 43 rfl) rfl (fun c => ?_) (fun c => ?_)
    · have H := H.1 c
      refine x_iconst (x_at tdX11_coat 46 rfl) k_c_0 ?_
      refine x_weak (lv' := [(0, .ref (x_ad (gC h) 0)), (1, .int x1), (2, .int x2), (3, .int x3), (4, .int x4), (5, .int s0)]) ⟨rfl, rfl, rfl, rfl, rfl, rfl, trivial⟩ ?_
      exact H
    · have H := H.2 c
      refine x_iconst (x_at tdX11_coat 44 rfl) k_c_4 ?_
      refine x_goto 88 (x_at tdX11_coat 45 rfl) rfl ?_
      refine x_weak (lv' := [(0, .ref (x_ad (gC h) 0)), (1, .int x1), (2, .int x2), (3, .int x3), (4, .int x4), (5, .int s0)]) ⟨rfl, rfl, rfl, rfl, rfl, rfl, trivial⟩ ?_
      exact H
  · have H := H.2 c
    refine x_iconst (x_at tdX11_coat 39 rfl) k_c_3 ?_
    refine x_goto 88 (x_at tdX11_coat 40 rfl) rfl ?_
    refine x_weak (lv' := [(0, .ref (x_ad (gC h) 0)), (1, .int x1), (2, .int x2), (3, .int x3), (4, .int x4), (5, .int s0)]) ⟨rfl, rfl, rfl, rfl, rfl, rfl, trivial⟩ ?_
    exact H
theorem b_O_coat_88 {h : xH} {d : Nat}  {x1 : Int32} {x2 : Int32} {x3 : Int32} {x4 : Int32} {x5 : Int32} {s0 : Int32} {S : xSt} {K : Int32 → xSt → Prop}  (H : ((¬ x5 = x1 → B_O_coat_117 h d x1 x2 x3 x4 S K) ∧ (x5 = x1 → M_Co_stateOf h d x4 S (fun (r1 : Int32) (S1 : xSt) => ((¬ r1 = s0 → B_O_coat_117 h d x1 x2 x3 x4 S1 K) ∧ (r1 = s0 → B_O_coat_117 h d x1 x2 (x3 ||| ((1 : Int32) <<< (x4 &&& 31))) x4 S1 K)))))) : B_O_coat_88 h d x1 x2 x3 x4 x5 s0 S K := by
  unfold B_O_coat_88
  refine x_istore (x_at tdX11_coat 47 rfl) (by decide) ?_
  refine x_iload (x_at tdX11_coat 48 rfl) rfl ?_
  refine x_iload_n (x_at tdX11_coat 49 rfl) rfl rfl ?_
  refine x_ic_ne 117 (x_at tdX11_coat 50 rfl) rfl (fun c => ?_) (fun c => ?_)
  · have H := H.1 c
    refine x_weak (lv' := [(0, .ref (x_ad (gC h) 0)), (1, .int x1), (2, .int x2), (3, .int x3), (4, .int x4)]) ⟨rfl, rfl, rfl, rfl, rfl, trivial⟩ ?_
    exact H
  · have H := H.2 c
    refine x_aload_n (x_at tdX11_coat 51 rfl) rfl rfl ?_
    refine gfC_0_4 (x_at tdX11_coat 52 rfl) wf_X11_32 ?_
    refine x_iload (x_at tdX11_coat 53 rfl) rfl ?_
    refine x_cVi (as := [.int x4]) (rest := []) mi_X0_stateOf vc_0 (lC_41 h) (x_at tdX11_coat 54 rfl) wm_X11_133 rfl (Nat.le_of_ble_eq_true rfl) rfl H (fun r1 S1 H => ?_)
    refine x_iload (x_at tdX11_coat 55 rfl) rfl ?_
    refine x_ic_ne 117 (x_at tdX11_coat 56 rfl) rfl (fun c => ?_) (fun c => ?_)
    · have H := H.1 c
      refine x_weak (lv' := [(0, .ref (x_ad (gC h) 0)), (1, .int x1), (2, .int x2), (3, .int x3), (4, .int x4)]) ⟨rfl, rfl, rfl, rfl, rfl, trivial⟩ ?_
      exact H
    · have H := H.2 c
      refine x_iload_n (x_at tdX11_coat 57 rfl) rfl rfl ?_
      refine x_iconst (x_at tdX11_coat 58 rfl) k_c_1 ?_
      refine x_iload (x_at tdX11_coat 59 rfl) rfl ?_
      refine x_ishl (x_at tdX11_coat 60 rfl) ?_
      refine x_ior (x_at tdX11_coat 61 rfl) ?_
      refine x_istore_n (x_at tdX11_coat 62 rfl) rfl (by decide) ?_
      refine x_weak (lv' := [(0, .ref (x_ad (gC h) 0)), (1, .int x1), (2, .int x2), (3, .int (x3 ||| ((1 : Int32) <<< (x4 &&& 31)))), (4, .int x4)]) ⟨rfl, rfl, rfl, rfl, rfl, trivial⟩ ?_
      exact H
theorem b_O_coat_117 {h : xH} {d : Nat}  {x1 : Int32} {x2 : Int32} {x3 : Int32} {x4 : Int32} {S : xSt} {K : Int32 → xSt → Prop}  (H : B_O_coat_27 h d x1 x2 x3 (x4 + 1) S K) : B_O_coat_117 h d x1 x2 x3 x4 S K := by
  unfold B_O_coat_117
  refine x_iinc (x_at tdX11_coat 63 rfl) rfl (k_inc_1 _) (by decide) ?_
  refine x_goto 27 (x_at tdX11_coat 64 rfl) rfl ?_
  refine x_weak (lv' := [(0, .ref (x_ad (gC h) 0)), (1, .int x1), (2, .int x2), (3, .int x3), (4, .int (x4 + 1))]) ⟨rfl, rfl, rfl, rfl, rfl, trivial⟩ ?_
  exact H
theorem e_Co_isOn {h : xH} {d : Nat} {x1 : Int32} {S : xSt} {K : Int32 → xSt → Prop}  (H : (vp_in x1 23 ∧ ((¬ (S.1 42 (x1 : Int32).toNatClampNeg) = 0 → K 0 S) ∧ ((S.1 42 (x1 : Int32).toNatClampNeg) = 0 → K 1 S)))) : M_Co_isOn h d x1 S K := by
  refine x_enter pn_X0 (Nat.le_of_ble_eq_true rfl) ?_
  show X (gC h) _ _ 0 [(0, .ref (x_ad (gC h) 41)), (1, .int x1)] [] S _
  refine x_aload_n (x_at tdX0_isOn 0 rfl) rfl rfl ?_
  refine gfC_41_1 (x_at tdX0_isOn 1 rfl) wf_X0_11 ?_
  refine x_iload_n (x_at tdX0_isOn 2 rfl) rfl rfl ?_
  refine x_iald (lC_42 h) (x_at tdX0_isOn 3 rfl) H.1 ?_
  have H := H.2
  refine x_if_ne 13 (x_at tdX0_isOn 4 rfl) rfl (fun c => ?_) (fun c => ?_)
  · have H := H.1 c
    refine x_iconst (x_at tdX0_isOn 7 rfl) k_c_0 ?_
    exact x_ireturn (ty := .boolean) rfl zb0.1 (x_at tdX0_isOn 8 rfl) ⟨_, rfl, H⟩
  · have H := H.2 c
    refine x_iconst (x_at tdX0_isOn 5 rfl) k_c_1 ?_
    refine x_goto 14 (x_at tdX0_isOn 6 rfl) rfl ?_
    exact x_ireturn (ty := .boolean) rfl zb1.1 (x_at tdX0_isOn 8 rfl) ⟨_, rfl, H⟩
theorem e_O_free {h : xH} {d : Nat}  {S : xSt} {K : Int32 → xSt → Prop}  (H : B_O_free_14 h d (((1 : Int32) <<< ((S.1 2 0) &&& 31)) - (1 : Int32)) 0 S K) : M_O_free h d S K := by
  refine x_enter pn_X11 (Nat.le_of_ble_eq_true rfl) ?_
  show X (gC h) _ _ 0 [(0, .ref (x_ad (gC h) 0))] [] S _
  refine x_iconst (x_at tdX11_free 0 rfl) k_c_1 ?_
  refine x_aload_n (x_at tdX11_free 1 rfl) rfl rfl ?_
  refine gfC_0_2 (x_at tdX11_free 2 rfl) wf_X11_16 ?_
  refine gfC_2_0 (x_at tdX11_free 3 rfl) wf_X11_161 ?_
  refine x_ishl (x_at tdX11_free 4 rfl) ?_
  refine x_iconst (x_at tdX11_free 5 rfl) k_c_1 ?_
  refine x_isub (x_at tdX11_free 6 rfl) ?_
  refine x_istore_n (x_at tdX11_free 7 rfl) rfl (by decide) ?_
  refine x_iconst (x_at tdX11_free 8 rfl) k_c_0 ?_
  refine x_istore_n (x_at tdX11_free 9 rfl) rfl (by decide) ?_
  refine x_weak (lv' := [(0, .ref (x_ad (gC h) 0)), (1, .int (((1 : Int32) <<< ((S.1 2 0) &&& 31)) - (1 : Int32))), (2, .int 0)]) ⟨rfl, rfl, rfl, trivial⟩ ?_
  exact H
theorem b_O_free_14 {h : xH} {d : Nat}  {x1 : Int32} {x2 : Int32} {S : xSt} {K : Int32 → xSt → Prop}  (H : (((S.1 2 6) ≤ x2 → K x1 S) ∧ (¬ (S.1 2 6) ≤ x2 → M_Co_isOn h d x2 S (fun (r1 : Int32) (S1 : xSt) => ((r1 = 0 → B_O_free_52 h d x1 x2 S1 K) ∧ (¬ r1 = 0 → (vp_in x2 10 ∧ B_O_free_52 h d (x1 &&& (((1 : Int32) <<< ((S1.1 7 (x2 : Int32).toNatClampNeg) &&& 31)) ^^^ (-1 : Int32))) x2 S1 K))))))) : B_O_free_14 h d x1 x2 S K := by
  unfold B_O_free_14
  refine x_iload_n (x_at tdX11_free 10 rfl) rfl rfl ?_
  refine x_aload_n (x_at tdX11_free 11 rfl) rfl rfl ?_
  refine gfC_0_2 (x_at tdX11_free 12 rfl) wf_X11_16 ?_
  refine gfC_2_6 (x_at tdX11_free 13 rfl) wf_X11_126 ?_
  refine x_ic_ge 58 (x_at tdX11_free 14 rfl) rfl (fun c => ?_) (fun c => ?_)
  · have H := H.1 c
    refine x_iload_n (x_at tdX11_free 34 rfl) rfl rfl ?_
    exact x_ireturn (ty := .int) rfl rfl (x_at tdX11_free 35 rfl) ⟨_, rfl, H⟩
  · have H := H.2 c
    refine x_aload_n (x_at tdX11_free 15 rfl) rfl rfl ?_
    refine gfC_0_4 (x_at tdX11_free 16 rfl) wf_X11_32 ?_
    refine x_iload_n (x_at tdX11_free 17 rfl) rfl rfl ?_
    refine x_cVi (as := [.int x2]) (rest := []) mi_X0_isOn vc_0 (lC_41 h) (x_at tdX11_free 18 rfl) wm_X11_164 rfl (Nat.le_of_ble_eq_true rfl) rfl H (fun r1 S1 H => ?_)
    refine x_if_eq 52 (x_at tdX11_free 19 rfl) rfl (fun c => ?_) (fun c => ?_)
    · have H := H.1 c
      refine x_weak (lv' := [(0, .ref (x_ad (gC h) 0)), (1, .int x1), (2, .int x2)]) ⟨rfl, rfl, rfl, trivial⟩ ?_
      exact H
    · have H := H.2 c
      refine x_iload_n (x_at tdX11_free 20 rfl) rfl rfl ?_
      refine x_iconst (x_at tdX11_free 21 rfl) k_c_1 ?_
      refine x_aload_n (x_at tdX11_free 22 rfl) rfl rfl ?_
      refine gfC_0_2 (x_at tdX11_free 23 rfl) wf_X11_16 ?_
      refine gfC_2_7 (x_at tdX11_free 24 rfl) wf_X11_140 ?_
      refine x_iload_n (x_at tdX11_free 25 rfl) rfl rfl ?_
      refine x_iald (lC_7 h) (x_at tdX11_free 26 rfl) H.1 ?_
      have H := H.2
      refine x_ishl (x_at tdX11_free 27 rfl) ?_
      refine x_iconst (x_at tdX11_free 28 rfl) k_c_m1 ?_
      refine x_ixor (x_at tdX11_free 29 rfl) ?_
      refine x_iand (x_at tdX11_free 30 rfl) ?_
      refine x_istore_n (x_at tdX11_free 31 rfl) rfl (by decide) ?_
      refine x_weak (lv' := [(0, .ref (x_ad (gC h) 0)), (1, .int (x1 &&& (((1 : Int32) <<< ((S1.1 7 (x2 : Int32).toNatClampNeg) &&& 31)) ^^^ (-1 : Int32)))), (2, .int x2)]) ⟨rfl, rfl, rfl, trivial⟩ ?_
      exact H
theorem b_O_free_52 {h : xH} {d : Nat}  {x1 : Int32} {x2 : Int32} {S : xSt} {K : Int32 → xSt → Prop}  (H : B_O_free_14 h d x1 (x2 + 1) S K) : B_O_free_52 h d x1 x2 S K := by
  unfold B_O_free_52
  refine x_iinc (x_at tdX11_free 32 rfl) rfl (k_inc_1 _) (by decide) ?_
  refine x_goto 14 (x_at tdX11_free 33 rfl) rfl ?_
  refine x_weak (lv' := [(0, .ref (x_ad (gC h) 0)), (1, .int x1), (2, .int (x2 + 1))]) ⟨rfl, rfl, rfl, trivial⟩ ?_
  exact H
theorem e_Rg_hasDeed_2 {h : xH} {d : Nat} {x1 : Int32} {S : xSt} {K : Int32 → xSt → Prop}  (H : ((x1 < 0 → K 0 S) ∧ (¬ x1 < 0 → (((S.1 2 4) ≤ x1 → K 0 S) ∧ (¬ (S.1 2 4) ≤ x1 → K 1 S))))) : M_Rg_hasDeed_2 h d x1 S K := by
  refine x_enter pn_X5 (Nat.le_of_ble_eq_true rfl) ?_
  show X (gC h) _ _ 0 [(0, .ref (x_ad (gC h) 2)), (1, .int x1)] [] S _
  refine x_iload_n (x_at tdX5_hasDeed 0 rfl) rfl rfl ?_
  refine x_if_lt 16 (x_at tdX5_hasDeed 1 rfl) rfl (fun c => ?_) (fun c => ?_)
  · have H := H.1 c
    refine x_iconst (x_at tdX5_hasDeed 8 rfl) k_c_0 ?_
    exact x_ireturn (ty := .boolean) rfl zb0.1 (x_at tdX5_hasDeed 9 rfl) ⟨_, rfl, H⟩
  · have H := H.2 c
    refine x_iload_n (x_at tdX5_hasDeed 2 rfl) rfl rfl ?_
    refine x_aload_n (x_at tdX5_hasDeed 3 rfl) rfl rfl ?_
    refine gfC_2_4 (x_at tdX5_hasDeed 4 rfl) wf_X5_62 ?_
    refine x_ic_ge 16 (x_at tdX5_hasDeed 5 rfl) rfl (fun c => ?_) (fun c => ?_)
    · have H := H.1 c
      refine x_iconst (x_at tdX5_hasDeed 8 rfl) k_c_0 ?_
      exact x_ireturn (ty := .boolean) rfl zb0.1 (x_at tdX5_hasDeed 9 rfl) ⟨_, rfl, H⟩
    · have H := H.2 c
      refine x_iconst (x_at tdX5_hasDeed 6 rfl) k_c_1 ?_
      refine x_goto 17 (x_at tdX5_hasDeed 7 rfl) rfl ?_
      exact x_ireturn (ty := .boolean) rfl zb1.1 (x_at tdX5_hasDeed 9 rfl) ⟨_, rfl, H⟩
theorem e_O_sworn {h : xH} {d : Nat} {x1 : Int32} {x2 : Int32} {S : xSt} {K : Int32 → xSt → Prop}  (H : M_Rg_hasDeed_2 h d x1 S (fun (r1 : Int32) (S1 : xSt) => ((r1 = 0 → K (-1) S1) ∧ (¬ r1 = 0 → ((x2 < 0 → K (-1) S1) ∧ (¬ x2 < 0 → ((x2 ≤ 1 → B_O_sworn_27 h d x1 x2 0 0 S1 K) ∧ (¬ x2 ≤ 1 → K (-1) S1)))))))) : M_O_sworn h d x1 x2 S K := by
  refine x_enter pn_X11 (Nat.le_of_ble_eq_true rfl) ?_
  show X (gC h) _ _ 0 [(0, .ref (x_ad (gC h) 0)), (1, .int x1), (2, .int x2)] [] S _
  refine x_aload_n (x_at tdX11_sworn 0 rfl) rfl rfl ?_
  refine gfC_0_2 (x_at tdX11_sworn 1 rfl) wf_X11_16 ?_
  refine x_iload_n (x_at tdX11_sworn 2 rfl) rfl rfl ?_
  refine x_cVi (as := [.int x1]) (rest := []) mi_X5_hasDeed vc_5 (lC_2 h) (x_at tdX11_sworn 3 rfl) wm_X11_167 rfl (Nat.le_of_ble_eq_true rfl) rfl H (fun r1 S1 H => ?_)
  refine x_if_eq 20 (x_at tdX11_sworn 4 rfl) rfl (fun c => ?_) (fun c => ?_)
  · have H := H.1 c
    refine x_iconst (x_at tdX11_sworn 10 rfl) k_c_m1 ?_
    exact x_ireturn (ty := .int) rfl rfl (x_at tdX11_sworn 11 rfl) ⟨_, rfl, H⟩
  · have H := H.2 c
    refine x_iload_n (x_at tdX11_sworn 5 rfl) rfl rfl ?_
    refine x_if_lt 20 (x_at tdX11_sworn 6 rfl) rfl (fun c => ?_) (fun c => ?_)
    · have H := H.1 c
      refine x_iconst (x_at tdX11_sworn 10 rfl) k_c_m1 ?_
      exact x_ireturn (ty := .int) rfl rfl (x_at tdX11_sworn 11 rfl) ⟨_, rfl, H⟩
    · have H := H.2 c
      refine x_iload_n (x_at tdX11_sworn 7 rfl) rfl rfl ?_
      refine x_iconst (x_at tdX11_sworn 8 rfl) k_c_1 ?_
      refine x_ic_le 22 (x_at tdX11_sworn 9 rfl) rfl (fun c => ?_) (fun c => ?_)
      · have H := H.1 c
        refine x_iconst (x_at tdX11_sworn 12 rfl) k_c_0 ?_
        refine x_istore_n (x_at tdX11_sworn 13 rfl) rfl (by decide) ?_
        refine x_iconst (x_at tdX11_sworn 14 rfl) k_c_0 ?_
        refine x_istore (x_at tdX11_sworn 15 rfl) (by decide) ?_
        refine x_weak (lv' := [(0, .ref (x_ad (gC h) 0)), (1, .int x1), (2, .int x2), (3, .int 0), (4, .int 0)]) ⟨rfl, rfl, rfl, rfl, rfl, trivial⟩ ?_
        exact H
      · have H := H.2 c
        refine x_iconst (x_at tdX11_sworn 10 rfl) k_c_m1 ?_
        exact x_ireturn (ty := .int) rfl rfl (x_at tdX11_sworn 11 rfl) ⟨_, rfl, H⟩
theorem b_O_sworn_27 {h : xH} {d : Nat}  {x1 : Int32} {x2 : Int32} {x3 : Int32} {x4 : Int32} {S : xSt} {K : Int32 → xSt → Prop}  (H : (((S.1 2 6) ≤ x4 → K x3 S) ∧ (¬ (S.1 2 6) ≤ x4 → M_Co_isOn h d x4 S (fun (r1 : Int32) (S1 : xSt) => ((r1 = 0 → B_O_sworn_96 h d x1 x2 x3 x4 S1 K) ∧ (¬ r1 = 0 → (vp_in x4 10 ∧ ((¬ (S1.1 9 (x4 : Int32).toNatClampNeg) = x1 → B_O_sworn_96 h d x1 x2 x3 x4 S1 K) ∧ ((S1.1 9 (x4 : Int32).toNatClampNeg) = x1 → (vp_in x4 10 ∧ ((¬ (S1.1 10 (x4 : Int32).toNatClampNeg) = ((1 : Int32) - x2) → B_O_sworn_96 h d x1 x2 x3 x4 S1 K) ∧ ((S1.1 10 (x4 : Int32).toNatClampNeg) = ((1 : Int32) - x2) → (vp_in x4 10 ∧ B_O_sworn_96 h d x1 x2 (x3 ||| ((1 : Int32) <<< ((S1.1 7 (x4 : Int32).toNatClampNeg) &&& 31))) x4 S1 K))))))))))))) : B_O_sworn_27 h d x1 x2 x3 x4 S K := by
  unfold B_O_sworn_27
  refine x_iload (x_at tdX11_sworn 16 rfl) rfl ?_
  refine x_aload_n (x_at tdX11_sworn 17 rfl) rfl rfl ?_
  refine gfC_0_2 (x_at tdX11_sworn 18 rfl) wf_X11_16 ?_
  refine gfC_2_6 (x_at tdX11_sworn 19 rfl) wf_X11_126 ?_
  refine x_ic_ge 102 (x_at tdX11_sworn 20 rfl) rfl (fun c => ?_) (fun c => ?_)
  · have H := H.1 c
    refine x_iload_n (x_at tdX11_sworn 54 rfl) rfl rfl ?_
    exact x_ireturn (ty := .int) rfl rfl (x_at tdX11_sworn 55 rfl) ⟨_, rfl, H⟩
  · have H := H.2 c
    refine x_aload_n (x_at tdX11_sworn 21 rfl) rfl rfl ?_
    refine gfC_0_4 (x_at tdX11_sworn 22 rfl) wf_X11_32 ?_
    refine x_iload (x_at tdX11_sworn 23 rfl) rfl ?_
    refine x_cVi (as := [.int x4]) (rest := []) mi_X0_isOn vc_0 (lC_41 h) (x_at tdX11_sworn 24 rfl) wm_X11_164 rfl (Nat.le_of_ble_eq_true rfl) rfl H (fun r1 S1 H => ?_)
    refine x_if_eq 96 (x_at tdX11_sworn 25 rfl) rfl (fun c => ?_) (fun c => ?_)
    · have H := H.1 c
      refine x_weak (lv' := [(0, .ref (x_ad (gC h) 0)), (1, .int x1), (2, .int x2), (3, .int x3), (4, .int x4)]) ⟨rfl, rfl, rfl, rfl, rfl, trivial⟩ ?_
      exact H
    · have H := H.2 c
      refine x_aload_n (x_at tdX11_sworn 26 rfl) rfl rfl ?_
      refine gfC_0_2 (x_at tdX11_sworn 27 rfl) wf_X11_16 ?_
      refine gfC_2_9 (x_at tdX11_sworn 28 rfl) wf_X11_146 ?_
      refine x_iload (x_at tdX11_sworn 29 rfl) rfl ?_
      refine x_iald (lC_9 h) (x_at tdX11_sworn 30 rfl) H.1 ?_
      have H := H.2
      refine x_iload_n (x_at tdX11_sworn 31 rfl) rfl rfl ?_
      refine x_ic_ne 96 (x_at tdX11_sworn 32 rfl) rfl (fun c => ?_) (fun c => ?_)
      · have H := H.1 c
        refine x_weak (lv' := [(0, .ref (x_ad (gC h) 0)), (1, .int x1), (2, .int x2), (3, .int x3), (4, .int x4)]) ⟨rfl, rfl, rfl, rfl, rfl, trivial⟩ ?_
        exact H
      · have H := H.2 c
        refine x_aload_n (x_at tdX11_sworn 33 rfl) rfl rfl ?_
        refine gfC_0_2 (x_at tdX11_sworn 34 rfl) wf_X11_16 ?_
        refine gfC_2_10 (x_at tdX11_sworn 35 rfl) wf_X11_149 ?_
        refine x_iload (x_at tdX11_sworn 36 rfl) rfl ?_
        refine x_iald (lC_10 h) (x_at tdX11_sworn 37 rfl) H.1 ?_
        have H := H.2
        refine x_iconst (x_at tdX11_sworn 38 rfl) k_c_1 ?_
        refine x_iload_n (x_at tdX11_sworn 39 rfl) rfl rfl ?_
        refine x_isub (x_at tdX11_sworn 40 rfl) ?_
        refine x_ic_ne 96 (x_at tdX11_sworn 41 rfl) rfl (fun c => ?_) (fun c => ?_)
        · have H := H.1 c
          refine x_weak (lv' := [(0, .ref (x_ad (gC h) 0)), (1, .int x1), (2, .int x2), (3, .int x3), (4, .int x4)]) ⟨rfl, rfl, rfl, rfl, rfl, trivial⟩ ?_
          exact H
        · have H := H.2 c
          refine x_iload_n (x_at tdX11_sworn 42 rfl) rfl rfl ?_
          refine x_iconst (x_at tdX11_sworn 43 rfl) k_c_1 ?_
          refine x_aload_n (x_at tdX11_sworn 44 rfl) rfl rfl ?_
          refine gfC_0_2 (x_at tdX11_sworn 45 rfl) wf_X11_16 ?_
          refine gfC_2_7 (x_at tdX11_sworn 46 rfl) wf_X11_140 ?_
          refine x_iload (x_at tdX11_sworn 47 rfl) rfl ?_
          refine x_iald (lC_7 h) (x_at tdX11_sworn 48 rfl) H.1 ?_
          have H := H.2
          refine x_ishl (x_at tdX11_sworn 49 rfl) ?_
          refine x_ior (x_at tdX11_sworn 50 rfl) ?_
          refine x_istore_n (x_at tdX11_sworn 51 rfl) rfl (by decide) ?_
          refine x_weak (lv' := [(0, .ref (x_ad (gC h) 0)), (1, .int x1), (2, .int x2), (3, .int (x3 ||| ((1 : Int32) <<< ((S1.1 7 (x4 : Int32).toNatClampNeg) &&& 31)))), (4, .int x4)]) ⟨rfl, rfl, rfl, rfl, rfl, trivial⟩ ?_
          exact H
theorem b_O_sworn_96 {h : xH} {d : Nat}  {x1 : Int32} {x2 : Int32} {x3 : Int32} {x4 : Int32} {S : xSt} {K : Int32 → xSt → Prop}  (H : B_O_sworn_27 h d x1 x2 x3 (x4 + 1) S K) : B_O_sworn_96 h d x1 x2 x3 x4 S K := by
  unfold B_O_sworn_96
  refine x_iinc (x_at tdX11_sworn 52 rfl) rfl (k_inc_1 _) (by decide) ?_
  refine x_goto 27 (x_at tdX11_sworn 53 rfl) rfl ?_
  refine x_weak (lv' := [(0, .ref (x_ad (gC h) 0)), (1, .int x1), (2, .int x2), (3, .int x3), (4, .int (x4 + 1))]) ⟨rfl, rfl, rfl, rfl, rfl, trivial⟩ ?_
  exact H
theorem e_O_many {h : xH} {d : Nat} {x1 : Int32} {S : xSt} {K : Int32 → xSt → Prop}  (H : ((x1 < 0 → K (-1) S) ∧ (¬ x1 < 0 → ((x1 ≤ 4 → B_O_many_15 h d x1 0 0 S K) ∧ (¬ x1 ≤ 4 → K (-1) S))))) : M_O_many h d x1 S K := by
  refine x_enter pn_X11 (Nat.le_of_ble_eq_true rfl) ?_
  show X (gC h) _ _ 0 [(0, .ref (x_ad (gC h) 0)), (1, .int x1)] [] S _
  refine x_iload_n (x_at tdX11_many 0 rfl) rfl rfl ?_
  refine x_if_lt 9 (x_at tdX11_many 1 rfl) rfl (fun c => ?_) (fun c => ?_)
  · have H := H.1 c
    refine x_iconst (x_at tdX11_many 5 rfl) k_c_m1 ?_
    exact x_ireturn (ty := .int) rfl rfl (x_at tdX11_many 6 rfl) ⟨_, rfl, H⟩
  · have H := H.2 c
    refine x_iload_n (x_at tdX11_many 2 rfl) rfl rfl ?_
    refine x_iconst (x_at tdX11_many 3 rfl) k_c_4 ?_
    refine x_ic_le 11 (x_at tdX11_many 4 rfl) rfl (fun c => ?_) (fun c => ?_)
    · have H := H.1 c
      refine x_iconst (x_at tdX11_many 7 rfl) k_c_0 ?_
      refine x_istore_n (x_at tdX11_many 8 rfl) rfl (by decide) ?_
      refine x_iconst (x_at tdX11_many 9 rfl) k_c_0 ?_
      refine x_istore_n (x_at tdX11_many 10 rfl) rfl (by decide) ?_
      refine x_weak (lv' := [(0, .ref (x_ad (gC h) 0)), (1, .int x1), (2, .int 0), (3, .int 0)]) ⟨rfl, rfl, rfl, rfl, trivial⟩ ?_
      exact H
    · have H := H.2 c
      refine x_iconst (x_at tdX11_many 5 rfl) k_c_m1 ?_
      exact x_ireturn (ty := .int) rfl rfl (x_at tdX11_many 6 rfl) ⟨_, rfl, H⟩
theorem b_O_many_15 {h : xH} {d : Nat}  {x1 : Int32} {x2 : Int32} {x3 : Int32} {S : xSt} {K : Int32 → xSt → Prop}  (H : (((S.1 2 6) ≤ x3 → K x2 S) ∧ (¬ (S.1 2 6) ≤ x3 → M_Co_stateOf h d x3 S (fun (r1 : Int32) (S1 : xSt) => ((¬ r1 = x1 → B_O_many_41 h d x1 x2 x3 S1 K) ∧ (r1 = x1 → B_O_many_41 h d x1 (x2 + 1) x3 S1 K)))))) : B_O_many_15 h d x1 x2 x3 S K := by
  unfold B_O_many_15
  refine x_iload_n (x_at tdX11_many 11 rfl) rfl rfl ?_
  refine x_aload_n (x_at tdX11_many 12 rfl) rfl rfl ?_
  refine gfC_0_2 (x_at tdX11_many 13 rfl) wf_X11_16 ?_
  refine gfC_2_6 (x_at tdX11_many 14 rfl) wf_X11_126 ?_
  refine x_ic_ge 47 (x_at tdX11_many 15 rfl) rfl (fun c => ?_) (fun c => ?_)
  · have H := H.1 c
    refine x_iload_n (x_at tdX11_many 25 rfl) rfl rfl ?_
    exact x_ireturn (ty := .int) rfl rfl (x_at tdX11_many 26 rfl) ⟨_, rfl, H⟩
  · have H := H.2 c
    refine x_aload_n (x_at tdX11_many 16 rfl) rfl rfl ?_
    refine gfC_0_4 (x_at tdX11_many 17 rfl) wf_X11_32 ?_
    refine x_iload_n (x_at tdX11_many 18 rfl) rfl rfl ?_
    refine x_cVi (as := [.int x3]) (rest := []) mi_X0_stateOf vc_0 (lC_41 h) (x_at tdX11_many 19 rfl) wm_X11_133 rfl (Nat.le_of_ble_eq_true rfl) rfl H (fun r1 S1 H => ?_)
    refine x_iload_n (x_at tdX11_many 20 rfl) rfl rfl ?_
    refine x_ic_ne 41 (x_at tdX11_many 21 rfl) rfl (fun c => ?_) (fun c => ?_)
    · have H := H.1 c
      refine x_weak (lv' := [(0, .ref (x_ad (gC h) 0)), (1, .int x1), (2, .int x2), (3, .int x3)]) ⟨rfl, rfl, rfl, rfl, trivial⟩ ?_
      exact H
    · have H := H.2 c
      refine x_iinc (x_at tdX11_many 22 rfl) rfl (k_inc_1 _) (by decide) ?_
      refine x_weak (lv' := [(0, .ref (x_ad (gC h) 0)), (1, .int x1), (2, .int (x2 + 1)), (3, .int x3)]) ⟨rfl, rfl, rfl, rfl, trivial⟩ ?_
      exact H
theorem b_O_many_41 {h : xH} {d : Nat}  {x1 : Int32} {x2 : Int32} {x3 : Int32} {S : xSt} {K : Int32 → xSt → Prop}  (H : B_O_many_15 h d x1 x2 (x3 + 1) S K) : B_O_many_41 h d x1 x2 x3 S K := by
  unfold B_O_many_41
  refine x_iinc (x_at tdX11_many 23 rfl) rfl (k_inc_1 _) (by decide) ?_
  refine x_goto 15 (x_at tdX11_many 24 rfl) rfl ?_
  refine x_weak (lv' := [(0, .ref (x_ad (gC h) 0)), (1, .int x1), (2, .int x2), (3, .int (x3 + 1))]) ⟨rfl, rfl, rfl, rfl, trivial⟩ ?_
  exact H
theorem e_Co_isOnMan {h : xH} {d : Nat} {x1 : Int32} {x2 : Int32} {S : xSt} {K : Int32 → xSt → Prop}  (H : (vp_in x1 23 ∧ ((¬ (S.1 42 (x1 : Int32).toNatClampNeg) = 0 → K 0 S) ∧ ((S.1 42 (x1 : Int32).toNatClampNeg) = 0 → (vp_in x1 10 ∧ ((¬ (S.1 7 (x1 : Int32).toNatClampNeg) = x2 → K 0 S) ∧ ((S.1 7 (x1 : Int32).toNatClampNeg) = x2 → K 1 S))))))) : M_Co_isOnMan h d x1 x2 S K := by
  refine x_enter pn_X0 (Nat.le_of_ble_eq_true rfl) ?_
  show X (gC h) _ _ 0 [(0, .ref (x_ad (gC h) 41)), (1, .int x1), (2, .int x2)] [] S _
  refine x_aload_n (x_at tdX0_isOnMan 0 rfl) rfl rfl ?_
  refine gfC_41_1 (x_at tdX0_isOnMan 1 rfl) wf_X0_11 ?_
  refine x_iload_n (x_at tdX0_isOnMan 2 rfl) rfl rfl ?_
  refine x_iald (lC_42 h) (x_at tdX0_isOnMan 3 rfl) H.1 ?_
  have H := H.2
  refine x_if_ne 26 (x_at tdX0_isOnMan 4 rfl) rfl (fun c => ?_) (fun c => ?_)
  · have H := H.1 c
    refine x_iconst (x_at tdX0_isOnMan 14 rfl) k_c_0 ?_
    exact x_ireturn (ty := .boolean) rfl zb0.1 (x_at tdX0_isOnMan 15 rfl) ⟨_, rfl, H⟩
  · have H := H.2 c
    refine x_aload_n (x_at tdX0_isOnMan 5 rfl) rfl rfl ?_
    refine gfC_41_0 (x_at tdX0_isOnMan 6 rfl) wf_X0_15 ?_
    refine gfC_2_7 (x_at tdX0_isOnMan 7 rfl) wf_X0_28 ?_
    refine x_iload_n (x_at tdX0_isOnMan 8 rfl) rfl rfl ?_
    refine x_iald (lC_7 h) (x_at tdX0_isOnMan 9 rfl) H.1 ?_
    have H := H.2
    refine x_iload_n (x_at tdX0_isOnMan 10 rfl) rfl rfl ?_
    refine x_ic_ne 26 (x_at tdX0_isOnMan 11 rfl) rfl (fun c => ?_) (fun c => ?_)
    · have H := H.1 c
      refine x_iconst (x_at tdX0_isOnMan 14 rfl) k_c_0 ?_
      exact x_ireturn (ty := .boolean) rfl zb0.1 (x_at tdX0_isOnMan 15 rfl) ⟨_, rfl, H⟩
    · have H := H.2 c
      refine x_iconst (x_at tdX0_isOnMan 12 rfl) k_c_1 ?_
      refine x_goto 27 (x_at tdX0_isOnMan 13 rfl) rfl ?_
      exact x_ireturn (ty := .boolean) rfl zb1.1 (x_at tdX0_isOnMan 15 rfl) ⟨_, rfl, H⟩
theorem e_Co_doDeed {h : xH} {d : Nat} {x1 : Int32} {x2 : Int32} {S : xSt} {K : Int32 → xSt → Prop}  (H : B_Co_doDeed_8 h d x1 x2 0 0 0 S K) : M_Co_doDeed h d x1 x2 S K := by
  refine x_enter pn_X0 (Nat.le_of_ble_eq_true rfl) ?_
  show X (gC h) _ _ 0 [(0, .ref (x_ad (gC h) 41)), (1, .int x1), (2, .int x2)] [] S _
  refine x_iconst (x_at tdX0_doDeed 0 rfl) k_c_0 ?_
  refine x_istore_n (x_at tdX0_doDeed 1 rfl) rfl (by decide) ?_
  refine x_iconst (x_at tdX0_doDeed 2 rfl) k_c_0 ?_
  refine x_istore (x_at tdX0_doDeed 3 rfl) (by decide) ?_
  refine x_iconst (x_at tdX0_doDeed 4 rfl) k_c_0 ?_
  refine x_istore (x_at tdX0_doDeed 5 rfl) (by decide) ?_
  refine x_weak (lv' := [(0, .ref (x_ad (gC h) 41)), (1, .int x1), (2, .int x2), (3, .int 0), (4, .int 0), (5, .int 0)]) ⟨rfl, rfl, rfl, rfl, rfl, rfl, trivial⟩ ?_
  exact H
theorem b_Co_doDeed_8 {h : xH} {d : Nat}  {x1 : Int32} {x2 : Int32} {x3 : Int32} {x4 : Int32} {x5 : Int32} {S : xSt} {K : Int32 → xSt → Prop}  (H : (((S.1 2 6) ≤ x5 → K (((100 : Int32) * x3) + x4) S) ∧ (¬ (S.1 2 6) ≤ x5 → M_Co_isOnMan h d x5 x1 S (fun (r1 : Int32) (S1 : xSt) => ((r1 = 0 → B_Co_doDeed_83 h d x1 x2 x3 x4 x5 S1 K) ∧ (¬ r1 = 0 → (vp_in x5 10 ∧ ((¬ (S1.1 9 (x5 : Int32).toNatClampNeg) = x2 → B_Co_doDeed_83 h d x1 x2 x3 x4 x5 S1 K) ∧ ((S1.1 9 (x5 : Int32).toNatClampNeg) = x2 → (vp_in x5 10 ∧ ((¬ (S1.1 10 (x5 : Int32).toNatClampNeg) = 1 → (vp_in x5 23 ∧ B_Co_doDeed_83 h d x1 x2 x3 (x4 + 1) x5 (x_putI S1 42 (x5 : Int32).toNatClampNeg 3) K)) ∧ ((S1.1 10 (x5 : Int32).toNatClampNeg) = 1 → (vp_in x5 23 ∧ B_Co_doDeed_83 h d x1 x2 (x3 + 1) x4 x5 (x_putI S1 42 (x5 : Int32).toNatClampNeg 1) K))))))))))))) : B_Co_doDeed_8 h d x1 x2 x3 x4 x5 S K := by
  unfold B_Co_doDeed_8
  refine x_iload (x_at tdX0_doDeed 6 rfl) rfl ?_
  refine x_aload_n (x_at tdX0_doDeed 7 rfl) rfl rfl ?_
  refine gfC_41_0 (x_at tdX0_doDeed 8 rfl) wf_X0_15 ?_
  refine gfC_2_6 (x_at tdX0_doDeed 9 rfl) wf_X0_41 ?_
  refine x_ic_ge 89 (x_at tdX0_doDeed 10 rfl) rfl (fun c => ?_) (fun c => ?_)
  · have H := H.1 c
    refine x_bipush (x_at tdX0_doDeed 45 rfl) k_b_100 ?_
    refine x_iload_n (x_at tdX0_doDeed 46 rfl) rfl rfl ?_
    refine x_imul (x_at tdX0_doDeed 47 rfl) ?_
    refine x_iload (x_at tdX0_doDeed 48 rfl) rfl ?_
    refine x_iadd (x_at tdX0_doDeed 49 rfl) ?_
    exact x_ireturn (ty := .int) rfl rfl (x_at tdX0_doDeed 50 rfl) ⟨_, rfl, H⟩
  · have H := H.2 c
    refine x_aload_n (x_at tdX0_doDeed 11 rfl) rfl rfl ?_
    refine x_iload (x_at tdX0_doDeed 12 rfl) rfl ?_
    refine x_iload_n (x_at tdX0_doDeed 13 rfl) rfl rfl ?_
    refine x_cVi (as := [.int x5, .int x1]) (rest := []) mi_X0_isOnMan vc_0 (lC_41 h) (x_at tdX0_doDeed 14 rfl) wm_X0_44 rfl (Nat.le_of_ble_eq_true rfl) rfl H (fun r1 S1 H => ?_)
    refine x_if_eq 83 (x_at tdX0_doDeed 15 rfl) rfl (fun c => ?_) (fun c => ?_)
    · have H := H.1 c
      refine x_weak (lv' := [(0, .ref (x_ad (gC h) 41)), (1, .int x1), (2, .int x2), (3, .int x3), (4, .int x4), (5, .int x5)]) ⟨rfl, rfl, rfl, rfl, rfl, rfl, trivial⟩ ?_
      exact H
    · have H := H.2 c
      refine x_aload_n (x_at tdX0_doDeed 16 rfl) rfl rfl ?_
      refine gfC_41_0 (x_at tdX0_doDeed 17 rfl) wf_X0_15 ?_
      refine gfC_2_9 (x_at tdX0_doDeed 18 rfl) wf_X0_48 ?_
      refine x_iload (x_at tdX0_doDeed 19 rfl) rfl ?_
      refine x_iald (lC_9 h) (x_at tdX0_doDeed 20 rfl) H.1 ?_
      have H := H.2
      refine x_iload_n (x_at tdX0_doDeed 21 rfl) rfl rfl ?_
      refine x_ic_ne 83 (x_at tdX0_doDeed 22 rfl) rfl (fun c => ?_) (fun c => ?_)
      · have H := H.1 c
        refine x_weak (lv' := [(0, .ref (x_ad (gC h) 41)), (1, .int x1), (2, .int x2), (3, .int x3), (4, .int x4), (5, .int x5)]) ⟨rfl, rfl, rfl, rfl, rfl, rfl, trivial⟩ ?_
        exact H
      · have H := H.2 c
        refine x_aload_n (x_at tdX0_doDeed 23 rfl) rfl rfl ?_
        refine gfC_41_0 (x_at tdX0_doDeed 24 rfl) wf_X0_15 ?_
        refine gfC_2_10 (x_at tdX0_doDeed 25 rfl) wf_X0_51 ?_
        refine x_iload (x_at tdX0_doDeed 26 rfl) rfl ?_
        refine x_iald (lC_10 h) (x_at tdX0_doDeed 27 rfl) H.1 ?_
        have H := H.2
        refine x_iconst (x_at tdX0_doDeed 28 rfl) k_c_1 ?_
        refine x_ic_ne 72 (x_at tdX0_doDeed 29 rfl) rfl (fun c => ?_) (fun c => ?_)
        · have H := H.1 c
          refine x_aload_n (x_at tdX0_doDeed 37 rfl) rfl rfl ?_
          refine gfC_41_1 (x_at tdX0_doDeed 38 rfl) wf_X0_11 ?_
          refine x_iload (x_at tdX0_doDeed 39 rfl) rfl ?_
          refine x_iconst (x_at tdX0_doDeed 40 rfl) k_c_3 ?_
          refine x_iast (lC_42 h) (x_at tdX0_doDeed 41 rfl) H.1 ?_
          have H := H.2
          refine x_iinc (x_at tdX0_doDeed 42 rfl) rfl (k_inc_1 _) (by decide) ?_
          refine x_weak (lv' := [(0, .ref (x_ad (gC h) 41)), (1, .int x1), (2, .int x2), (3, .int x3), (4, .int (x4 + 1)), (5, .int x5)]) ⟨rfl, rfl, rfl, rfl, rfl, rfl, trivial⟩ ?_
          exact H
        · have H := H.2 c
          refine x_aload_n (x_at tdX0_doDeed 30 rfl) rfl rfl ?_
          refine gfC_41_1 (x_at tdX0_doDeed 31 rfl) wf_X0_11 ?_
          refine x_iload (x_at tdX0_doDeed 32 rfl) rfl ?_
          refine x_iconst (x_at tdX0_doDeed 33 rfl) k_c_1 ?_
          refine x_iast (lC_42 h) (x_at tdX0_doDeed 34 rfl) H.1 ?_
          have H := H.2
          refine x_iinc (x_at tdX0_doDeed 35 rfl) rfl (k_inc_1 _) (by decide) ?_
          refine x_goto 83 (x_at tdX0_doDeed 36 rfl) rfl ?_
          refine x_weak (lv' := [(0, .ref (x_ad (gC h) 41)), (1, .int x1), (2, .int x2), (3, .int (x3 + 1)), (4, .int x4), (5, .int x5)]) ⟨rfl, rfl, rfl, rfl, rfl, rfl, trivial⟩ ?_
          exact H
theorem b_Co_doDeed_83 {h : xH} {d : Nat}  {x1 : Int32} {x2 : Int32} {x3 : Int32} {x4 : Int32} {x5 : Int32} {S : xSt} {K : Int32 → xSt → Prop}  (H : B_Co_doDeed_8 h d x1 x2 x3 x4 (x5 + 1) S K) : B_Co_doDeed_83 h d x1 x2 x3 x4 x5 S K := by
  unfold B_Co_doDeed_83
  refine x_iinc (x_at tdX0_doDeed 43 rfl) rfl (k_inc_1 _) (by decide) ?_
  refine x_goto 8 (x_at tdX0_doDeed 44 rfl) rfl ?_
  refine x_weak (lv' := [(0, .ref (x_ad (gC h) 41)), (1, .int x1), (2, .int x2), (3, .int x3), (4, .int x4), (5, .int (x5 + 1))]) ⟨rfl, rfl, rfl, rfl, rfl, rfl, trivial⟩ ?_
  exact H
theorem e_Hi_addAct {h : xH} {d : Nat}  {S : xSt} {K : xSt → Prop}  (H : (((S.1 43 4) < 40 → B_Hi_addAct_39 h d (x_putI S 43 4 ((S.1 43 4) + (1 : Int32))) K) ∧ (¬ (S.1 43 4) < 40 → (((¬ (23 : Int32) < 0 ∧ ¬ (0 : Int32) < 0 ∧ ¬ (920 : Int32) < 0) ∧ 23 + 920 ≤ 943 ∧ 0 + 920 ≤ 943) ∧ B_Hi_addAct_39 h d (x_putA S 44 (va_cpy (S.1 44) (S.1 44) 23 0 920)) K)))) : M_Hi_addAct h d S K := by
  refine x_enter pn_X2 (Nat.le_of_ble_eq_true rfl) ?_
  show X (gC h) _ _ 0 [(0, .ref (x_ad (gC h) 43))] [] S _
  refine x_aload_n (x_at tdX2_addAct 0 rfl) rfl rfl ?_
  refine gfC_43_4 (x_at tdX2_addAct 1 rfl) wf_X2_24 ?_
  refine x_bipush (x_at tdX2_addAct 2 rfl) k_b_40 ?_
  refine x_ic_lt 29 (x_at tdX2_addAct 3 rfl) rfl (fun c => ?_) (fun c => ?_)
  · have H := H.1 c
    refine x_aload_n (x_at tdX2_addAct 13 rfl) rfl rfl ?_
    refine x_dup (x_at tdX2_addAct 14 rfl) rfl ?_
    refine gfC_43_4 (x_at tdX2_addAct 15 rfl) wf_X2_24 ?_
    refine x_iconst (x_at tdX2_addAct 16 rfl) k_c_1 ?_
    refine x_iadd (x_at tdX2_addAct 17 rfl) ?_
    refine pfC_43_4 (x_at tdX2_addAct 18 rfl) wf_X2_24 ?_
    refine x_weak (lv' := [(0, .ref (x_ad (gC h) 43))]) ⟨rfl, trivial⟩ ?_
    exact H
  · have H := H.2 c
    refine x_aload_n (x_at tdX2_addAct 4 rfl) rfl rfl ?_
    refine gfC_43_1 (x_at tdX2_addAct 5 rfl) wf_X2_11 ?_
    refine x_bipush (x_at tdX2_addAct 6 rfl) k_b_23 ?_
    refine x_aload_n (x_at tdX2_addAct 7 rfl) rfl rfl ?_
    refine gfC_43_1 (x_at tdX2_addAct 8 rfl) wf_X2_11 ?_
    refine x_iconst (x_at tdX2_addAct 9 rfl) k_c_0 ?_
    refine x_sipush (x_at tdX2_addAct 10 rfl) k_s_920 ?_
    refine x_copyI (lC_44 h) (lC_44 h) wm_X2_34 wn_arraycopy ws_arraycopy wi_J10 (x_at tdX2_addAct 11 rfl) (Nat.le_of_ble_eq_true rfl) H.1 ?_
    have H := H.2
    refine x_goto 39 (x_at tdX2_addAct 12 rfl) rfl ?_
    refine x_weak (lv' := [(0, .ref (x_ad (gC h) 43))]) ⟨rfl, trivial⟩ ?_
    exact H
theorem b_Hi_addAct_39 {h : xH} {d : Nat}   {S : xSt} {K : xSt → Prop}  (H : M_Hi_writeRow h d (x_putI S 43 5 (S.1 43 4)) (fun (S1 : xSt) => K S1)) : B_Hi_addAct_39 h d S K := by
  unfold B_Hi_addAct_39
  refine x_aload_n (x_at tdX2_addAct 19 rfl) rfl rfl ?_
  refine x_aload_n (x_at tdX2_addAct 20 rfl) rfl rfl ?_
  refine gfC_43_4 (x_at tdX2_addAct 21 rfl) wf_X2_24 ?_
  refine pfC_43_5 (x_at tdX2_addAct 22 rfl) wf_X2_28 ?_
  refine x_aload_n (x_at tdX2_addAct 23 rfl) rfl rfl ?_
  refine x_cVv (as := []) (rest := []) mi_X2_writeRow vc_2 (lC_43 h) (x_at tdX2_addAct 24 rfl) wm_X2_31 rfl (Nat.le_of_ble_eq_true rfl) rfl H (fun S1 H => ?_)
  exact x_return rfl (x_at tdX2_addAct 25 rfl) ⟨rfl, H⟩
theorem e_O_does {h : xH} {d : Nat} {x1 : Int32} {x2 : Int32} {S : xSt} {K : Int32 → xSt → Prop}  (H : M_Rg_hasMan_2 h (d + 2) x1 S (fun (r1 : Int32) (S1 : xSt) => ((r1 = 0 → K (-1) S1) ∧ (¬ r1 = 0 → M_Rg_hasDeed_2 h (d + 2) x2 S1 (fun (r2 : Int32) (S2 : xSt) => ((¬ r2 = 0 → M_Co_doDeed h (d + 1) x1 x2 S2 (fun (r3 : Int32) (S3 : xSt) => M_Hi_addAct h d S3 (fun (S4 : xSt) => K r3 S4))) ∧ (r2 = 0 → K (-1) S2))))))) : M_O_does h d x1 x2 S K := by
  refine x_enter pn_X11 (Nat.le_of_ble_eq_true rfl) ?_
  show X (gC h) _ _ 0 [(0, .ref (x_ad (gC h) 0)), (1, .int x1), (2, .int x2)] [] S _
  refine x_aload_n (x_at tdX11_does 0 rfl) rfl rfl ?_
  refine gfC_0_2 (x_at tdX11_does 1 rfl) wf_X11_16 ?_
  refine x_iload_n (x_at tdX11_does 2 rfl) rfl rfl ?_
  refine x_cVi (as := [.int x1]) (rest := []) mi_X5_hasMan vc_5 (lC_2 h) (x_at tdX11_does 3 rfl) wm_X11_158 rfl (Nat.le_of_ble_eq_true rfl) rfl H (fun r1 S1 H => ?_)
  refine x_if_eq 22 (x_at tdX11_does 4 rfl) rfl (fun c => ?_) (fun c => ?_)
  · have H := H.1 c
    refine x_iconst (x_at tdX11_does 10 rfl) k_c_m1 ?_
    exact x_ireturn (ty := .int) rfl rfl (x_at tdX11_does 11 rfl) ⟨_, rfl, H⟩
  · have H := H.2 c
    refine x_aload_n (x_at tdX11_does 5 rfl) rfl rfl ?_
    refine gfC_0_2 (x_at tdX11_does 6 rfl) wf_X11_16 ?_
    refine x_iload_n (x_at tdX11_does 7 rfl) rfl rfl ?_
    refine x_cVi (as := [.int x2]) (rest := []) mi_X5_hasDeed vc_5 (lC_2 h) (x_at tdX11_does 8 rfl) wm_X11_167 rfl (Nat.le_of_ble_eq_true rfl) rfl H (fun r2 S2 H => ?_)
    refine x_if_ne 24 (x_at tdX11_does 9 rfl) rfl (fun c => ?_) (fun c => ?_)
    · have H := H.1 c
      refine x_aload_n (x_at tdX11_does 12 rfl) rfl rfl ?_
      refine gfC_0_4 (x_at tdX11_does 13 rfl) wf_X11_32 ?_
      refine x_iload_n (x_at tdX11_does 14 rfl) rfl rfl ?_
      refine x_iload_n (x_at tdX11_does 15 rfl) rfl rfl ?_
      refine x_cVi (as := [.int x1, .int x2]) (rest := []) mi_X0_doDeed vc_0 (lC_41 h) (x_at tdX11_does 16 rfl) wm_X11_170 rfl (Nat.le_of_ble_eq_true rfl) rfl H (fun r3 S3 H => ?_)
      refine x_istore_n (x_at tdX11_does 17 rfl) rfl (by decide) ?_
      refine x_aload_n (x_at tdX11_does 18 rfl) rfl rfl ?_
      refine gfC_0_5 (x_at tdX11_does 19 rfl) wf_X11_41 ?_
      refine x_cVv (as := []) (rest := []) mi_X2_addAct vc_2 (lC_43 h) (x_at tdX11_does 20 rfl) wm_X11_174 rfl (Nat.le_of_ble_eq_true rfl) rfl H (fun S4 H => ?_)
      refine x_iload_n (x_at tdX11_does 21 rfl) rfl rfl ?_
      exact x_ireturn (ty := .int) rfl rfl (x_at tdX11_does 22 rfl) ⟨_, rfl, H⟩
    · have H := H.2 c
      refine x_iconst (x_at tdX11_does 10 rfl) k_c_m1 ?_
      exact x_ireturn (ty := .int) rfl rfl (x_at tdX11_does 11 rfl) ⟨_, rfl, H⟩
theorem e_Co_unbutton {h : xH} {d : Nat} {x1 : Int32} {S : xSt} {K : xSt → Prop}  (H : (vp_in x1 23 ∧ K (x_putI S 42 (x1 : Int32).toNatClampNeg 2))) : M_Co_unbutton h d x1 S K := by
  refine x_enter pn_X0 (Nat.le_of_ble_eq_true rfl) ?_
  show X (gC h) _ _ 0 [(0, .ref (x_ad (gC h) 41)), (1, .int x1)] [] S _
  refine x_aload_n (x_at tdX0_unbutton 0 rfl) rfl rfl ?_
  refine gfC_41_1 (x_at tdX0_unbutton 1 rfl) wf_X0_11 ?_
  refine x_iload_n (x_at tdX0_unbutton 2 rfl) rfl rfl ?_
  refine x_iconst (x_at tdX0_unbutton 3 rfl) k_c_2 ?_
  refine x_iast (lC_42 h) (x_at tdX0_unbutton 4 rfl) H.1 ?_
  have H := H.2
  exact x_return rfl (x_at tdX0_unbutton 5 rfl) ⟨rfl, H⟩
theorem e_Co_waits {h : xH} {d : Nat} {x1 : Int32} {S : xSt} {K : Int32 → xSt → Prop}  (H : (vp_in x1 10 ∧ M_Rg_hasButton_2 h d (S.1 13 (x1 : Int32).toNatClampNeg) S (fun (r1 : Int32) (S1 : xSt) => ((r1 = 0 → K 0 S1) ∧ (¬ r1 = 0 → M_Co_isOn h d (S.1 13 (x1 : Int32).toNatClampNeg) S1 (fun (r2 : Int32) (S2 : xSt) => ((r2 = 0 → K 0 S2) ∧ (¬ r2 = 0 → K 1 S2)))))))) : M_Co_waits h d x1 S K := by
  refine x_enter pn_X0 (Nat.le_of_ble_eq_true rfl) ?_
  show X (gC h) _ _ 0 [(0, .ref (x_ad (gC h) 41)), (1, .int x1)] [] S _
  refine x_aload_n (x_at tdX0_waits 0 rfl) rfl rfl ?_
  refine gfC_41_0 (x_at tdX0_waits 1 rfl) wf_X0_15 ?_
  refine gfC_2_13 (x_at tdX0_waits 2 rfl) wf_X0_31 ?_
  refine x_iload_n (x_at tdX0_waits 3 rfl) rfl rfl ?_
  refine x_iald (lC_13 h) (x_at tdX0_waits 4 rfl) H.1 ?_
  have H := H.2
  refine x_istore_n (x_at tdX0_waits 5 rfl) rfl (by decide) ?_
  refine x_aload_n (x_at tdX0_waits 6 rfl) rfl rfl ?_
  refine gfC_41_0 (x_at tdX0_waits 7 rfl) wf_X0_15 ?_
  refine x_iload_n (x_at tdX0_waits 8 rfl) rfl rfl ?_
  refine x_cVi (as := [.int (S.1 13 (x1 : Int32).toNatClampNeg)]) (rest := []) mi_X5_hasButton vc_5 (lC_2 h) (x_at tdX0_waits 9 rfl) wm_X0_34 rfl (Nat.le_of_ble_eq_true rfl) rfl H (fun r1 S1 H => ?_)
  refine x_if_eq 33 (x_at tdX0_waits 10 rfl) rfl (fun c => ?_) (fun c => ?_)
  · have H := H.1 c
    refine x_iconst (x_at tdX0_waits 17 rfl) k_c_0 ?_
    exact x_ireturn (ty := .boolean) rfl zb0.1 (x_at tdX0_waits 18 rfl) ⟨_, rfl, H⟩
  · have H := H.2 c
    refine x_aload_n (x_at tdX0_waits 11 rfl) rfl rfl ?_
    refine x_iload_n (x_at tdX0_waits 12 rfl) rfl rfl ?_
    refine x_cVi (as := [.int (S.1 13 (x1 : Int32).toNatClampNeg)]) (rest := []) mi_X0_isOn vc_0 (lC_41 h) (x_at tdX0_waits 13 rfl) wm_X0_38 rfl (Nat.le_of_ble_eq_true rfl) rfl H (fun r2 S2 H => ?_)
    refine x_if_eq 33 (x_at tdX0_waits 14 rfl) rfl (fun c => ?_) (fun c => ?_)
    · have H := H.1 c
      refine x_iconst (x_at tdX0_waits 17 rfl) k_c_0 ?_
      exact x_ireturn (ty := .boolean) rfl zb0.1 (x_at tdX0_waits 18 rfl) ⟨_, rfl, H⟩
    · have H := H.2 c
      refine x_iconst (x_at tdX0_waits 15 rfl) k_c_1 ?_
      refine x_goto 34 (x_at tdX0_waits 16 rfl) rfl ?_
      exact x_ireturn (ty := .boolean) rfl zb1.1 (x_at tdX0_waits 18 rfl) ⟨_, rfl, H⟩
theorem e_O_isButtonOn {h : xH} {d : Nat} {x1 : Int32} {S : xSt} {K : Int32 → xSt → Prop}  (H : M_Rg_hasButton_2 h d x1 S (fun (r1 : Int32) (S1 : xSt) => ((r1 = 0 → K 0 S1) ∧ (¬ r1 = 0 → M_Co_isOn h d x1 S1 (fun (r2 : Int32) (S2 : xSt) => ((r2 = 0 → K 0 S2) ∧ (¬ r2 = 0 → K 1 S2))))))) : M_O_isButtonOn h d x1 S K := by
  refine x_enter pn_X11 (Nat.le_of_ble_eq_true rfl) ?_
  show X (gC h) _ _ 0 [(0, .ref (x_ad (gC h) 0)), (1, .int x1)] [] S _
  refine x_aload_n (x_at tdX11_isButtonOn 0 rfl) rfl rfl ?_
  refine gfC_0_2 (x_at tdX11_isButtonOn 1 rfl) wf_X11_16 ?_
  refine x_iload_n (x_at tdX11_isButtonOn 2 rfl) rfl rfl ?_
  refine x_cVi (as := [.int x1]) (rest := []) mi_X5_hasButton vc_5 (lC_2 h) (x_at tdX11_isButtonOn 3 rfl) wm_X11_129 rfl (Nat.le_of_ble_eq_true rfl) rfl H (fun r1 S1 H => ?_)
  refine x_if_eq 26 (x_at tdX11_isButtonOn 4 rfl) rfl (fun c => ?_) (fun c => ?_)
  · have H := H.1 c
    refine x_iconst (x_at tdX11_isButtonOn 12 rfl) k_c_0 ?_
    exact x_ireturn (ty := .boolean) rfl zb0.1 (x_at tdX11_isButtonOn 13 rfl) ⟨_, rfl, H⟩
  · have H := H.2 c
    refine x_aload_n (x_at tdX11_isButtonOn 5 rfl) rfl rfl ?_
    refine gfC_0_4 (x_at tdX11_isButtonOn 6 rfl) wf_X11_32 ?_
    refine x_iload_n (x_at tdX11_isButtonOn 7 rfl) rfl rfl ?_
    refine x_cVi (as := [.int x1]) (rest := []) mi_X0_isOn vc_0 (lC_41 h) (x_at tdX11_isButtonOn 8 rfl) wm_X11_164 rfl (Nat.le_of_ble_eq_true rfl) rfl H (fun r2 S2 H => ?_)
    refine x_if_eq 26 (x_at tdX11_isButtonOn 9 rfl) rfl (fun c => ?_) (fun c => ?_)
    · have H := H.1 c
      refine x_iconst (x_at tdX11_isButtonOn 12 rfl) k_c_0 ?_
      exact x_ireturn (ty := .boolean) rfl zb0.1 (x_at tdX11_isButtonOn 13 rfl) ⟨_, rfl, H⟩
    · have H := H.2 c
      refine x_iconst (x_at tdX11_isButtonOn 10 rfl) k_c_1 ?_
      refine x_goto 27 (x_at tdX11_isButtonOn 11 rfl) rfl ?_
      exact x_ireturn (ty := .boolean) rfl zb1.1 (x_at tdX11_isButtonOn 13 rfl) ⟨_, rfl, H⟩
theorem e_O_undoes {h : xH} {d : Nat} {x1 : Int32} {S : xSt} {K : Int32 → xSt → Prop}  (H : M_O_isButtonOn h (d + 1) x1 S (fun (r1 : Int32) (S1 : xSt) => ((r1 = 0 → K 0 S1) ∧ (¬ r1 = 0 → M_Co_waits h (d + 1) x1 S1 (fun (r2 : Int32) (S2 : xSt) => ((r2 = 0 → M_Co_unbutton h (d + 2) x1 S2 (fun (S3 : xSt) => M_Hi_addAct h d S3 (fun (S4 : xSt) => K 1 S4))) ∧ (¬ r2 = 0 → K 0 S2))))))) : M_O_undoes h d x1 S K := by
  refine x_enter pn_X11 (Nat.le_of_ble_eq_true rfl) ?_
  show X (gC h) _ _ 0 [(0, .ref (x_ad (gC h) 0)), (1, .int x1)] [] S _
  refine x_aload_n (x_at tdX11_undoes 0 rfl) rfl rfl ?_
  refine x_iload_n (x_at tdX11_undoes 1 rfl) rfl rfl ?_
  refine x_cVi (as := [.int x1]) (rest := []) mi_X11_isButtonOn vc_11 (lC_0 h) (x_at tdX11_undoes 2 rfl) wm_X11_177 rfl (Nat.le_of_ble_eq_true rfl) rfl H (fun r1 S1 H => ?_)
  refine x_if_eq 19 (x_at tdX11_undoes 3 rfl) rfl (fun c => ?_) (fun c => ?_)
  · have H := H.1 c
    refine x_iconst (x_at tdX11_undoes 9 rfl) k_c_0 ?_
    exact x_ireturn (ty := .boolean) rfl zb0.1 (x_at tdX11_undoes 10 rfl) ⟨_, rfl, H⟩
  · have H := H.2 c
    refine x_aload_n (x_at tdX11_undoes 4 rfl) rfl rfl ?_
    refine gfC_0_4 (x_at tdX11_undoes 5 rfl) wf_X11_32 ?_
    refine x_iload_n (x_at tdX11_undoes 6 rfl) rfl rfl ?_
    refine x_cVi (as := [.int x1]) (rest := []) mi_X0_waits vc_0 (lC_41 h) (x_at tdX11_undoes 7 rfl) wm_X11_180 rfl (Nat.le_of_ble_eq_true rfl) rfl H (fun r2 S2 H => ?_)
    refine x_if_eq 21 (x_at tdX11_undoes 8 rfl) rfl (fun c => ?_) (fun c => ?_)
    · have H := H.1 c
      refine x_aload_n (x_at tdX11_undoes 11 rfl) rfl rfl ?_
      refine gfC_0_4 (x_at tdX11_undoes 12 rfl) wf_X11_32 ?_
      refine x_iload_n (x_at tdX11_undoes 13 rfl) rfl rfl ?_
      refine x_cVv (as := [.int x1]) (rest := []) mi_X0_unbutton vc_0 (lC_41 h) (x_at tdX11_undoes 14 rfl) wm_X11_183 rfl (Nat.le_of_ble_eq_true rfl) rfl H (fun S3 H => ?_)
      refine x_aload_n (x_at tdX11_undoes 15 rfl) rfl rfl ?_
      refine gfC_0_5 (x_at tdX11_undoes 16 rfl) wf_X11_41 ?_
      refine x_cVv (as := []) (rest := []) mi_X2_addAct vc_2 (lC_43 h) (x_at tdX11_undoes 17 rfl) wm_X11_174 rfl (Nat.le_of_ble_eq_true rfl) rfl H (fun S4 H => ?_)
      refine x_iconst (x_at tdX11_undoes 18 rfl) k_c_1 ?_
      exact x_ireturn (ty := .boolean) rfl zb1.1 (x_at tdX11_undoes 19 rfl) ⟨_, rfl, H⟩
    · have H := H.2 c
      refine x_iconst (x_at tdX11_undoes 9 rfl) k_c_0 ?_
      exact x_ireturn (ty := .boolean) rfl zb0.1 (x_at tdX11_undoes 10 rfl) ⟨_, rfl, H⟩
theorem e_Co_cutOff {h : xH} {d : Nat} {x1 : Int32} {S : xSt} {K : xSt → Prop}  (H : (vp_in x1 23 ∧ K (x_putI (x_putI S 42 (x1 : Int32).toNatClampNeg 2) 42 22 (((x_putI S 42 (x1 : Int32).toNatClampNeg 2).1 42 22) + (1 : Int32))))) : M_Co_cutOff h d x1 S K := by
  refine x_enter pn_X0 (Nat.le_of_ble_eq_true rfl) ?_
  show X (gC h) _ _ 0 [(0, .ref (x_ad (gC h) 41)), (1, .int x1)] [] S _
  refine x_aload_n (x_at tdX0_cutOff 0 rfl) rfl rfl ?_
  refine gfC_41_1 (x_at tdX0_cutOff 1 rfl) wf_X0_11 ?_
  refine x_iload_n (x_at tdX0_cutOff 2 rfl) rfl rfl ?_
  refine x_iconst (x_at tdX0_cutOff 3 rfl) k_c_2 ?_
  refine x_iast (lC_42 h) (x_at tdX0_cutOff 4 rfl) H.1 ?_
  have H := H.2
  refine x_aload_n (x_at tdX0_cutOff 5 rfl) rfl rfl ?_
  refine gfC_41_1 (x_at tdX0_cutOff 6 rfl) wf_X0_11 ?_
  refine x_bipush (x_at tdX0_cutOff 7 rfl) k_b_22 ?_
  refine x_dup2 (x_at tdX0_cutOff 8 rfl) rfl rfl ?_
  refine x_iald (lC_42 h) (x_at tdX0_cutOff 9 rfl) vi_22_23 ?_
  refine x_top (v := ((x_putI S 42 (x1 : Int32).toNatClampNeg 2).1 42 22)) rfl ?_
  refine x_iconst (x_at tdX0_cutOff 10 rfl) k_c_1 ?_
  refine x_iadd (x_at tdX0_cutOff 11 rfl) ?_
  refine x_iast (lC_42 h) (x_at tdX0_cutOff 12 rfl) vi_22_23 ?_
  exact x_return rfl (x_at tdX0_cutOff 13 rfl) ⟨rfl, H⟩
theorem e_Co_cuts {h : xH} {d : Nat}  {S : xSt} {K : Int32 → xSt → Prop}  (H : K (S.1 42 22) S) : M_Co_cuts h d S K := by
  refine x_enter pn_X0 (Nat.le_of_ble_eq_true rfl) ?_
  show X (gC h) _ _ 0 [(0, .ref (x_ad (gC h) 41))] [] S _
  refine x_aload_n (x_at tdX0_cuts 0 rfl) rfl rfl ?_
  refine gfC_41_1 (x_at tdX0_cuts 1 rfl) wf_X0_11 ?_
  refine x_bipush (x_at tdX0_cuts 2 rfl) k_b_22 ?_
  refine x_iald (lC_42 h) (x_at tdX0_cuts 3 rfl) vi_22_23 ?_
  refine x_top (v := (S.1 42 22)) rfl ?_
  exact x_ireturn (ty := .int) rfl rfl (x_at tdX0_cuts 4 rfl) ⟨_, rfl, H⟩
theorem e_O_cut {h : xH} {d : Nat} {x1 : Int32} {S : xSt} {K : Int32 → xSt → Prop}  (H : M_O_isButtonOn h (d + 1) x1 S (fun (r1 : Int32) (S1 : xSt) => ((r1 = 0 → K (-1) S1) ∧ (¬ r1 = 0 → M_Co_cuts h (d + 2) S1 (fun (r2 : Int32) (S2 : xSt) => ((r2 < 3 → M_Co_cutOff h (d + 2) x1 S2 (fun (S3 : xSt) => M_Hi_addAct h d S3 (fun (S4 : xSt) => M_Co_cuts h (d + 2) S4 (fun (r5 : Int32) (S5 : xSt) => K r5 S5)))) ∧ (¬ r2 < 3 → K (-1) S2))))))) : M_O_cut h d x1 S K := by
  refine x_enter pn_X11 (Nat.le_of_ble_eq_true rfl) ?_
  show X (gC h) _ _ 0 [(0, .ref (x_ad (gC h) 0)), (1, .int x1)] [] S _
  refine x_aload_n (x_at tdX11_cut 0 rfl) rfl rfl ?_
  refine x_iload_n (x_at tdX11_cut 1 rfl) rfl rfl ?_
  refine x_cVi (as := [.int x1]) (rest := []) mi_X11_isButtonOn vc_11 (lC_0 h) (x_at tdX11_cut 2 rfl) wm_X11_177 rfl (Nat.le_of_ble_eq_true rfl) rfl H (fun r1 S1 H => ?_)
  refine x_if_eq 19 (x_at tdX11_cut 3 rfl) rfl (fun c => ?_) (fun c => ?_)
  · have H := H.1 c
    refine x_iconst (x_at tdX11_cut 9 rfl) k_c_m1 ?_
    exact x_ireturn (ty := .int) rfl rfl (x_at tdX11_cut 10 rfl) ⟨_, rfl, H⟩
  · have H := H.2 c
    refine x_aload_n (x_at tdX11_cut 4 rfl) rfl rfl ?_
    refine gfC_0_4 (x_at tdX11_cut 5 rfl) wf_X11_32 ?_
    refine x_cVi (as := []) (rest := []) mi_X0_cuts vc_0 (lC_41 h) (x_at tdX11_cut 6 rfl) wm_X11_186 rfl (Nat.le_of_ble_eq_true rfl) rfl H (fun r2 S2 H => ?_)
    refine x_iconst (x_at tdX11_cut 7 rfl) k_c_3 ?_
    refine x_ic_lt 21 (x_at tdX11_cut 8 rfl) rfl (fun c => ?_) (fun c => ?_)
    · have H := H.1 c
      refine x_aload_n (x_at tdX11_cut 11 rfl) rfl rfl ?_
      refine gfC_0_4 (x_at tdX11_cut 12 rfl) wf_X11_32 ?_
      refine x_iload_n (x_at tdX11_cut 13 rfl) rfl rfl ?_
      refine x_cVv (as := [.int x1]) (rest := []) mi_X0_cutOff vc_0 (lC_41 h) (x_at tdX11_cut 14 rfl) wm_X11_190 rfl (Nat.le_of_ble_eq_true rfl) rfl H (fun S3 H => ?_)
      refine x_aload_n (x_at tdX11_cut 15 rfl) rfl rfl ?_
      refine gfC_0_5 (x_at tdX11_cut 16 rfl) wf_X11_41 ?_
      refine x_cVv (as := []) (rest := []) mi_X2_addAct vc_2 (lC_43 h) (x_at tdX11_cut 17 rfl) wm_X11_174 rfl (Nat.le_of_ble_eq_true rfl) rfl H (fun S4 H => ?_)
      refine x_aload_n (x_at tdX11_cut 18 rfl) rfl rfl ?_
      refine gfC_0_4 (x_at tdX11_cut 19 rfl) wf_X11_32 ?_
      refine x_cVi (as := []) (rest := []) mi_X0_cuts vc_0 (lC_41 h) (x_at tdX11_cut 20 rfl) wm_X11_186 rfl (Nat.le_of_ble_eq_true rfl) rfl H (fun r5 S5 H => ?_)
      exact x_ireturn (ty := .int) rfl rfl (x_at tdX11_cut 21 rfl) ⟨_, rfl, H⟩
    · have H := H.2 c
      refine x_iconst (x_at tdX11_cut 9 rfl) k_c_m1 ?_
      exact x_ireturn (ty := .int) rfl rfl (x_at tdX11_cut 10 rfl) ⟨_, rfl, H⟩
theorem e_Co_sewAnew {h : xH} {d : Nat} {x1 : Int32} {S : xSt} {K : xSt → Prop}  (H : (vp_in x1 23 ∧ (vp_in x1 10 ∧ (vp_in ((10 : Int32) + x1) 23 ∧ K (x_putI (x_putI S 42 (x1 : Int32).toNatClampNeg 0) 42 (((10 : Int32) + x1) : Int32).toNatClampNeg (S.1 12 (x1 : Int32).toNatClampNeg)))))) : M_Co_sewAnew h d x1 S K := by
  refine x_enter pn_X0 (Nat.le_of_ble_eq_true rfl) ?_
  show X (gC h) _ _ 0 [(0, .ref (x_ad (gC h) 41)), (1, .int x1)] [] S _
  refine x_aload_n (x_at tdX0_sewAnew 0 rfl) rfl rfl ?_
  refine gfC_41_1 (x_at tdX0_sewAnew 1 rfl) wf_X0_11 ?_
  refine x_iload_n (x_at tdX0_sewAnew 2 rfl) rfl rfl ?_
  refine x_iconst (x_at tdX0_sewAnew 3 rfl) k_c_0 ?_
  refine x_iast (lC_42 h) (x_at tdX0_sewAnew 4 rfl) H.1 ?_
  have H := H.2
  refine x_aload_n (x_at tdX0_sewAnew 5 rfl) rfl rfl ?_
  refine gfC_41_1 (x_at tdX0_sewAnew 6 rfl) wf_X0_11 ?_
  refine x_bipush (x_at tdX0_sewAnew 7 rfl) k_b_10 ?_
  refine x_iload_n (x_at tdX0_sewAnew 8 rfl) rfl rfl ?_
  refine x_iadd (x_at tdX0_sewAnew 9 rfl) ?_
  refine x_aload_n (x_at tdX0_sewAnew 10 rfl) rfl rfl ?_
  refine gfC_41_0 (x_at tdX0_sewAnew 11 rfl) wf_X0_15 ?_
  refine gfC_2_12 (x_at tdX0_sewAnew 12 rfl) wf_X0_19 ?_
  refine x_iload_n (x_at tdX0_sewAnew 13 rfl) rfl rfl ?_
  refine x_iald (lC_12 h) (x_at tdX0_sewAnew 14 rfl) H.1 ?_
  have H := H.2
  refine x_top (v := (S.1 12 (x1 : Int32).toNatClampNeg)) rfl ?_
  refine x_iast (lC_42 h) (x_at tdX0_sewAnew 15 rfl) H.1 ?_
  have H := H.2
  exact x_return rfl (x_at tdX0_sewAnew 16 rfl) ⟨rfl, H⟩
theorem e_O_sew {h : xH} {d : Nat} {x1 : Int32} {S : xSt} {K : Int32 → xSt → Prop}  (H : M_Rg_hasButton_2 h (d + 2) x1 S (fun (r1 : Int32) (S1 : xSt) => ((¬ r1 = 0 → M_Co_stateOf h (d + 2) x1 S1 (fun (r2 : Int32) (S2 : xSt) => ((r2 = 0 → B_O_sew_38 h d x1 S2 K) ∧ (¬ r2 = 0 → M_Co_stateOf h (d + 2) x1 S2 (fun (r3 : Int32) (S3 : xSt) => ((r3 = 4 → B_O_sew_38 h d x1 S3 K) ∧ (¬ r3 = 4 → K (-1) S3))))))) ∧ (r1 = 0 → K (-1) S1)))) : M_O_sew h d x1 S K := by
  refine x_enter pn_X11 (Nat.le_of_ble_eq_true rfl) ?_
  show X (gC h) _ _ 0 [(0, .ref (x_ad (gC h) 0)), (1, .int x1)] [] S _
  refine x_aload_n (x_at tdX11_sew 0 rfl) rfl rfl ?_
  refine gfC_0_2 (x_at tdX11_sew 1 rfl) wf_X11_16 ?_
  refine x_iload_n (x_at tdX11_sew 2 rfl) rfl rfl ?_
  refine x_cVi (as := [.int x1]) (rest := []) mi_X5_hasButton vc_5 (lC_2 h) (x_at tdX11_sew 3 rfl) wm_X11_129 rfl (Nat.le_of_ble_eq_true rfl) rfl H (fun r1 S1 H => ?_)
  refine x_if_ne 13 (x_at tdX11_sew 4 rfl) rfl (fun c => ?_) (fun c => ?_)
  · have H := H.1 c
    refine x_aload_n (x_at tdX11_sew 7 rfl) rfl rfl ?_
    refine gfC_0_4 (x_at tdX11_sew 8 rfl) wf_X11_32 ?_
    refine x_iload_n (x_at tdX11_sew 9 rfl) rfl rfl ?_
    refine x_cVi (as := [.int x1]) (rest := []) mi_X0_stateOf vc_0 (lC_41 h) (x_at tdX11_sew 10 rfl) wm_X11_133 rfl (Nat.le_of_ble_eq_true rfl) rfl H (fun r2 S2 H => ?_)
    refine x_if_eq 38 (x_at tdX11_sew 11 rfl) rfl (fun c => ?_) (fun c => ?_)
    · have H := H.1 c
      refine x_weak (lv' := [(0, .ref (x_ad (gC h) 0)), (1, .int x1)]) ⟨rfl, rfl, trivial⟩ ?_
      exact H
    · have H := H.2 c
      refine x_aload_n (x_at tdX11_sew 12 rfl) rfl rfl ?_
      refine gfC_0_4 (x_at tdX11_sew 13 rfl) wf_X11_32 ?_
      refine x_iload_n (x_at tdX11_sew 14 rfl) rfl rfl ?_
      refine x_cVi (as := [.int x1]) (rest := []) mi_X0_stateOf vc_0 (lC_41 h) (x_at tdX11_sew 15 rfl) wm_X11_133 rfl (Nat.le_of_ble_eq_true rfl) rfl H (fun r3 S3 H => ?_)
      refine x_iconst (x_at tdX11_sew 16 rfl) k_c_4 ?_
      refine x_ic_eq 38 (x_at tdX11_sew 17 rfl) rfl (fun c => ?_) (fun c => ?_)
      · have H := H.1 c
        refine x_weak (lv' := [(0, .ref (x_ad (gC h) 0)), (1, .int x1)]) ⟨rfl, rfl, trivial⟩ ?_
        exact H
      · have H := H.2 c
        refine x_iconst (x_at tdX11_sew 18 rfl) k_c_m1 ?_
        exact x_ireturn (ty := .int) rfl rfl (x_at tdX11_sew 19 rfl) ⟨_, rfl, H⟩
  · have H := H.2 c
    refine x_iconst (x_at tdX11_sew 5 rfl) k_c_m1 ?_
    exact x_ireturn (ty := .int) rfl rfl (x_at tdX11_sew 6 rfl) ⟨_, rfl, H⟩
theorem b_O_sew_38 {h : xH} {d : Nat}  {x1 : Int32} {S : xSt} {K : Int32 → xSt → Prop}  (H : M_Co_threadOf h (d + 2) x1 S (fun (r1 : Int32) (S1 : xSt) => M_Co_sewAnew h (d + 2) x1 S1 (fun (S2 : xSt) => M_Hi_addAct h d S2 (fun (S3 : xSt) => K r1 S3)))) : B_O_sew_38 h d x1 S K := by
  unfold B_O_sew_38
  refine x_aload_n (x_at tdX11_sew 20 rfl) rfl rfl ?_
  refine gfC_0_4 (x_at tdX11_sew 21 rfl) wf_X11_32 ?_
  refine x_iload_n (x_at tdX11_sew 22 rfl) rfl rfl ?_
  refine x_cVi (as := [.int x1]) (rest := []) mi_X0_threadOf vc_0 (lC_41 h) (x_at tdX11_sew 23 rfl) wm_X11_137 rfl (Nat.le_of_ble_eq_true rfl) rfl H (fun r1 S1 H => ?_)
  refine x_istore_n (x_at tdX11_sew 24 rfl) rfl (by decide) ?_
  refine x_aload_n (x_at tdX11_sew 25 rfl) rfl rfl ?_
  refine gfC_0_4 (x_at tdX11_sew 26 rfl) wf_X11_32 ?_
  refine x_iload_n (x_at tdX11_sew 27 rfl) rfl rfl ?_
  refine x_cVv (as := [.int x1]) (rest := []) mi_X0_sewAnew vc_0 (lC_41 h) (x_at tdX11_sew 28 rfl) wm_X11_193 rfl (Nat.le_of_ble_eq_true rfl) rfl H (fun S2 H => ?_)
  refine x_aload_n (x_at tdX11_sew 29 rfl) rfl rfl ?_
  refine gfC_0_5 (x_at tdX11_sew 30 rfl) wf_X11_41 ?_
  refine x_cVv (as := []) (rest := []) mi_X2_addAct vc_2 (lC_43 h) (x_at tdX11_sew 31 rfl) wm_X11_174 rfl (Nat.le_of_ble_eq_true rfl) rfl H (fun S3 H => ?_)
  refine x_iload_n (x_at tdX11_sew 32 rfl) rfl rfl ?_
  exact x_ireturn (ty := .int) rfl rfl (x_at tdX11_sew 33 rfl) ⟨_, rfl, H⟩
theorem e_Co_nextSeed {h : xH} {d : Nat} {x0 : Int32} {S : xSt} {K : Int32 → xSt → Prop}  (H : K (((x0 * (137 : Int32)) + (71 : Int32)) - ((x0 * (137 : Int32)) + (71 : Int32)) / 1000 * 1000) S) : M_Co_nextSeed h d x0 S K := by
  refine x_enter pn_X0 (Nat.le_of_ble_eq_true rfl) ?_
  show X (gC h) _ _ 0 [(0, .int x0)] [] S _
  refine x_iload_n (x_at tdX0_nextSeed 0 rfl) rfl rfl ?_
  refine x_sipush (x_at tdX0_nextSeed 1 rfl) k_s_137 ?_
  refine x_imul (x_at tdX0_nextSeed 2 rfl) ?_
  refine x_bipush (x_at tdX0_nextSeed 3 rfl) k_b_71 ?_
  refine x_iadd (x_at tdX0_nextSeed 4 rfl) ?_
  refine x_sipush (x_at tdX0_nextSeed 5 rfl) k_s_1000 ?_
  refine x_irem (x_at tdX0_nextSeed 6 rfl) (by decide) ?_
  exact x_ireturn (ty := .int) rfl rfl (x_at tdX0_nextSeed 7 rfl) ⟨_, rfl, H⟩
theorem e_Co_seed {h : xH} {d : Nat}  {S : xSt} {K : Int32 → xSt → Prop}  (H : K (S.1 42 21) S) : M_Co_seed h d S K := by
  refine x_enter pn_X0 (Nat.le_of_ble_eq_true rfl) ?_
  show X (gC h) _ _ 0 [(0, .ref (x_ad (gC h) 41))] [] S _
  refine x_aload_n (x_at tdX0_seed 0 rfl) rfl rfl ?_
  refine gfC_41_1 (x_at tdX0_seed 1 rfl) wf_X0_11 ?_
  refine x_bipush (x_at tdX0_seed 2 rfl) k_b_21 ?_
  refine x_iald (lC_42 h) (x_at tdX0_seed 3 rfl) vi_21_23 ?_
  refine x_top (v := (S.1 42 21)) rfl ?_
  exact x_ireturn (ty := .int) rfl rfl (x_at tdX0_seed 4 rfl) ⟨_, rfl, H⟩
theorem e_Co_stateAfterWear {h : xH} {d : Nat} {x1 : Int32} {x2 : Int32} {x3 : Int32} {S : xSt} {K : Int32 → xSt → Prop}  (H : ((0 < x2 → (vp_in x1 10 ∧ (((S.1 11 (x1 : Int32).toNatClampNeg) < x3 → (vp_in x1 10 ∧ ((¬ (S.1 10 (x1 : Int32).toNatClampNeg) = 1 → K 1 S) ∧ ((S.1 10 (x1 : Int32).toNatClampNeg) = 1 → K 3 S)))) ∧ (¬ (S.1 11 (x1 : Int32).toNatClampNeg) < x3 → K 0 S)))) ∧ (¬ 0 < x2 → K 4 S))) : M_Co_stateAfterWear h d x1 x2 x3 S K := by
  refine x_enter pn_X0 (Nat.le_of_ble_eq_true rfl) ?_
  show X (gC h) _ _ 0 [(0, .ref (x_ad (gC h) 41)), (1, .int x1), (2, .int x2), (3, .int x3)] [] S _
  refine x_iload_n (x_at tdX0_stateAfterWear 0 rfl) rfl rfl ?_
  refine x_if_gt 6 (x_at tdX0_stateAfterWear 1 rfl) rfl (fun c => ?_) (fun c => ?_)
  · have H := H.1 c
    refine x_aload_n (x_at tdX0_stateAfterWear 4 rfl) rfl rfl ?_
    refine gfC_41_0 (x_at tdX0_stateAfterWear 5 rfl) wf_X0_15 ?_
    refine gfC_2_11 (x_at tdX0_stateAfterWear 6 rfl) wf_X0_109 ?_
    refine x_iload_n (x_at tdX0_stateAfterWear 7 rfl) rfl rfl ?_
    refine x_iald (lC_11 h) (x_at tdX0_stateAfterWear 8 rfl) H.1 ?_
    have H := H.2
    refine x_iload_n (x_at tdX0_stateAfterWear 9 rfl) rfl rfl ?_
    refine x_ic_lt 21 (x_at tdX0_stateAfterWear 10 rfl) rfl (fun c => ?_) (fun c => ?_)
    · have H := H.1 c
      refine x_aload_n (x_at tdX0_stateAfterWear 13 rfl) rfl rfl ?_
      refine gfC_41_0 (x_at tdX0_stateAfterWear 14 rfl) wf_X0_15 ?_
      refine gfC_2_10 (x_at tdX0_stateAfterWear 15 rfl) wf_X0_51 ?_
      refine x_iload_n (x_at tdX0_stateAfterWear 16 rfl) rfl rfl ?_
      refine x_iald (lC_10 h) (x_at tdX0_stateAfterWear 17 rfl) H.1 ?_
      have H := H.2
      refine x_iconst (x_at tdX0_stateAfterWear 18 rfl) k_c_1 ?_
      refine x_ic_ne 38 (x_at tdX0_stateAfterWear 19 rfl) rfl (fun c => ?_) (fun c => ?_)
      · have H := H.1 c
        refine x_iconst (x_at tdX0_stateAfterWear 22 rfl) k_c_1 ?_
        exact x_ireturn (ty := .int) rfl rfl (x_at tdX0_stateAfterWear 23 rfl) ⟨_, rfl, H⟩
      · have H := H.2 c
        refine x_iconst (x_at tdX0_stateAfterWear 20 rfl) k_c_3 ?_
        refine x_goto 39 (x_at tdX0_stateAfterWear 21 rfl) rfl ?_
        exact x_ireturn (ty := .int) rfl rfl (x_at tdX0_stateAfterWear 23 rfl) ⟨_, rfl, H⟩
    · have H := H.2 c
      refine x_iconst (x_at tdX0_stateAfterWear 11 rfl) k_c_0 ?_
      exact x_ireturn (ty := .int) rfl rfl (x_at tdX0_stateAfterWear 12 rfl) ⟨_, rfl, H⟩
  · have H := H.2 c
    refine x_iconst (x_at tdX0_stateAfterWear 2 rfl) k_c_4 ?_
    exact x_ireturn (ty := .int) rfl rfl (x_at tdX0_stateAfterWear 3 rfl) ⟨_, rfl, H⟩
theorem e_Co_stormBy {h : xH} {d : Nat} {x1 : Int32} {S : xSt} {K : Int32 → xSt → Prop}  (H : (((S.1 2 18) ≤ (x1 - x1 / 100 * 100) → K 0 S) ∧ (¬ (S.1 2 18) ≤ (x1 - x1 / 100 * 100) → K 1 S))) : M_Co_stormBy h d x1 S K := by
  refine x_enter pn_X0 (Nat.le_of_ble_eq_true rfl) ?_
  show X (gC h) _ _ 0 [(0, .ref (x_ad (gC h) 41)), (1, .int x1)] [] S _
  refine x_iload_n (x_at tdX0_stormBy 0 rfl) rfl rfl ?_
  refine x_bipush (x_at tdX0_stormBy 1 rfl) k_b_100 ?_
  refine x_irem (x_at tdX0_stormBy 2 rfl) (by decide) ?_
  refine x_aload_n (x_at tdX0_stormBy 3 rfl) rfl rfl ?_
  refine gfC_41_0 (x_at tdX0_stormBy 4 rfl) wf_X0_15 ?_
  refine gfC_2_18 (x_at tdX0_stormBy 5 rfl) wf_X0_79 ?_
  refine x_ic_ge 18 (x_at tdX0_stormBy 6 rfl) rfl (fun c => ?_) (fun c => ?_)
  · have H := H.1 c
    refine x_iconst (x_at tdX0_stormBy 9 rfl) k_c_0 ?_
    exact x_ireturn (ty := .int) rfl rfl (x_at tdX0_stormBy 10 rfl) ⟨_, rfl, H⟩
  · have H := H.2 c
    refine x_iconst (x_at tdX0_stormBy 7 rfl) k_c_1 ?_
    refine x_goto 19 (x_at tdX0_stormBy 8 rfl) rfl ?_
    exact x_ireturn (ty := .int) rfl rfl (x_at tdX0_stormBy 10 rfl) ⟨_, rfl, H⟩
theorem e_Co_today {h : xH} {d : Nat}  {S : xSt} {K : Int32 → xSt → Prop}  (H : K (S.1 42 20) S) : M_Co_today h d S K := by
  refine x_enter pn_X0 (Nat.le_of_ble_eq_true rfl) ?_
  show X (gC h) _ _ 0 [(0, .ref (x_ad (gC h) 41))] [] S _
  refine x_aload_n (x_at tdX0_today 0 rfl) rfl rfl ?_
  refine gfC_41_1 (x_at tdX0_today 1 rfl) wf_X0_11 ?_
  refine x_bipush (x_at tdX0_today 2 rfl) k_b_20 ?_
  refine x_iald (lC_42 h) (x_at tdX0_today 3 rfl) vi_20_23 ?_
  refine x_top (v := (S.1 42 20)) rfl ?_
  exact x_ireturn (ty := .int) rfl rfl (x_at tdX0_today 4 rfl) ⟨_, rfl, H⟩
theorem e_Wr_truth {h : xH} {d : Nat} {x0 : Int32} {S : xSt} {K : Int32 → xSt → Prop}  (H : ((x0 = 0 → K 0 S) ∧ (¬ x0 = 0 → K 1 S))) : M_Wr_truth h d x0 S K := by
  refine x_enter pn_X10 (Nat.le_of_ble_eq_true rfl) ?_
  show X (gC h) _ _ 0 [(0, .int x0)] [] S _
  refine x_iload_n (x_at tdX10_truth 0 rfl) rfl rfl ?_
  refine x_if_eq 8 (x_at tdX10_truth 1 rfl) rfl (fun c => ?_) (fun c => ?_)
  · have H := H.1 c
    refine x_iconst (x_at tdX10_truth 4 rfl) k_c_0 ?_
    exact x_ireturn (ty := .int) rfl rfl (x_at tdX10_truth 5 rfl) ⟨_, rfl, H⟩
  · have H := H.2 c
    refine x_iconst (x_at tdX10_truth 2 rfl) k_c_1 ?_
    refine x_goto 9 (x_at tdX10_truth 3 rfl) rfl ?_
    exact x_ireturn (ty := .int) rfl rfl (x_at tdX10_truth 5 rfl) ⟨_, rfl, H⟩
theorem e_Wr_join {h : xH} {d : Nat} {x0 : Int32} {x1 : Int32} {x2 : Int32} {S : xSt} {K : Int32 → xSt → Prop}  (H : (((x0.toInt < 37 ∨ 62 < x0.toInt) → ((¬ x1 = 0 → M_Wr_truth h d 1 S (fun (r1 : Int32) (S1 : xSt) => K r1 S1)) ∧ (x1 = 0 → ((x2 = 0 → M_Wr_truth h d 0 S (fun (r2 : Int32) (S2 : xSt) => K r2 S2)) ∧ (¬ x2 = 0 → M_Wr_truth h d 1 S (fun (r3 : Int32) (S3 : xSt) => K r3 S3)))))) ∧ (x0 = 37 → ((¬ x2 = 0 → (¬ x2 = 0 ∧ K (x1 - x1 / x2 * x2) S)) ∧ (x2 = 0 → K 0 S))) ∧ (x0 = 38 → ((x1 = 0 → M_Wr_truth h d 0 S (fun (r4 : Int32) (S4 : xSt) => K r4 S4)) ∧ (¬ x1 = 0 → ((x2 = 0 → M_Wr_truth h d 0 S (fun (r5 : Int32) (S5 : xSt) => K r5 S5)) ∧ (¬ x2 = 0 → M_Wr_truth h d 1 S (fun (r6 : Int32) (S6 : xSt) => K r6 S6)))))) ∧ (x0 = 39 → ((¬ x1 = 0 → M_Wr_truth h d 1 S (fun (r7 : Int32) (S7 : xSt) => K r7 S7)) ∧ (x1 = 0 → ((x2 = 0 → M_Wr_truth h d 0 S (fun (r8 : Int32) (S8 : xSt) => K r8 S8)) ∧ (¬ x2 = 0 → M_Wr_truth h d 1 S (fun (r9 : Int32) (S9 : xSt) => K r9 S9)))))) ∧ (x0 = 40 → ((¬ x1 = 0 → M_Wr_truth h d 1 S (fun (r10 : Int32) (S10 : xSt) => K r10 S10)) ∧ (x1 = 0 → ((x2 = 0 → M_Wr_truth h d 0 S (fun (r11 : Int32) (S11 : xSt) => K r11 S11)) ∧ (¬ x2 = 0 → M_Wr_truth h d 1 S (fun (r12 : Int32) (S12 : xSt) => K r12 S12)))))) ∧ (x0 = 41 → ((¬ x1 = 0 → M_Wr_truth h d 1 S (fun (r13 : Int32) (S13 : xSt) => K r13 S13)) ∧ (x1 = 0 → ((x2 = 0 → M_Wr_truth h d 0 S (fun (r14 : Int32) (S14 : xSt) => K r14 S14)) ∧ (¬ x2 = 0 → M_Wr_truth h d 1 S (fun (r15 : Int32) (S15 : xSt) => K r15 S15)))))) ∧ (x0 = 42 → K (x1 * x2) S) ∧ (x0 = 43 → K (x1 + x2) S) ∧ (x0 = 44 → ((¬ x1 = 0 → M_Wr_truth h d 1 S (fun (r16 : Int32) (S16 : xSt) => K r16 S16)) ∧ (x1 = 0 → ((x2 = 0 → M_Wr_truth h d 0 S (fun (r17 : Int32) (S17 : xSt) => K r17 S17)) ∧ (¬ x2 = 0 → M_Wr_truth h d 1 S (fun (r18 : Int32) (S18 : xSt) => K r18 S18)))))) ∧ (x0 = 45 → K (x1 - x2) S) ∧ (x0 = 46 → ((¬ x1 = 0 → M_Wr_truth h d 1 S (fun (r19 : Int32) (S19 : xSt) => K r19 S19)) ∧ (x1 = 0 → ((x2 = 0 → M_Wr_truth h d 0 S (fun (r20 : Int32) (S20 : xSt) => K r20 S20)) ∧ (¬ x2 = 0 → M_Wr_truth h d 1 S (fun (r21 : Int32) (S21 : xSt) => K r21 S21)))))) ∧ (x0 = 47 → ((¬ x2 = 0 → (¬ x2 = 0 ∧ K (x1 / x2) S)) ∧ (x2 = 0 → K 0 S))) ∧ (x0 = 48 → ((¬ x1 = 0 → M_Wr_truth h d 1 S (fun (r22 : Int32) (S22 : xSt) => K r22 S22)) ∧ (x1 = 0 → ((x2 = 0 → M_Wr_truth h d 0 S (fun (r23 : Int32) (S23 : xSt) => K r23 S23)) ∧ (¬ x2 = 0 → M_Wr_truth h d 1 S (fun (r24 : Int32) (S24 : xSt) => K r24 S24)))))) ∧ (x0 = 49 → ((¬ x1 = 0 → M_Wr_truth h d 1 S (fun (r25 : Int32) (S25 : xSt) => K r25 S25)) ∧ (x1 = 0 → ((x2 = 0 → M_Wr_truth h d 0 S (fun (r26 : Int32) (S26 : xSt) => K r26 S26)) ∧ (¬ x2 = 0 → M_Wr_truth h d 1 S (fun (r27 : Int32) (S27 : xSt) => K r27 S27)))))) ∧ (x0 = 50 → ((¬ x1 = 0 → M_Wr_truth h d 1 S (fun (r28 : Int32) (S28 : xSt) => K r28 S28)) ∧ (x1 = 0 → ((x2 = 0 → M_Wr_truth h d 0 S (fun (r29 : Int32) (S29 : xSt) => K r29 S29)) ∧ (¬ x2 = 0 → M_Wr_truth h d 1 S (fun (r30 : Int32) (S30 : xSt) => K r30 S30)))))) ∧ (x0 = 51 → ((¬ x1 = 0 → M_Wr_truth h d 1 S (fun (r31 : Int32) (S31 : xSt) => K r31 S31)) ∧ (x1 = 0 → ((x2 = 0 → M_Wr_truth h d 0 S (fun (r32 : Int32) (S32 : xSt) => K r32 S32)) ∧ (¬ x2 = 0 → M_Wr_truth h d 1 S (fun (r33 : Int32) (S33 : xSt) => K r33 S33)))))) ∧ (x0 = 52 → ((¬ x1 = 0 → M_Wr_truth h d 1 S (fun (r34 : Int32) (S34 : xSt) => K r34 S34)) ∧ (x1 = 0 → ((x2 = 0 → M_Wr_truth h d 0 S (fun (r35 : Int32) (S35 : xSt) => K r35 S35)) ∧ (¬ x2 = 0 → M_Wr_truth h d 1 S (fun (r36 : Int32) (S36 : xSt) => K r36 S36)))))) ∧ (x0 = 53 → ((¬ x1 = 0 → M_Wr_truth h d 1 S (fun (r37 : Int32) (S37 : xSt) => K r37 S37)) ∧ (x1 = 0 → ((x2 = 0 → M_Wr_truth h d 0 S (fun (r38 : Int32) (S38 : xSt) => K r38 S38)) ∧ (¬ x2 = 0 → M_Wr_truth h d 1 S (fun (r39 : Int32) (S39 : xSt) => K r39 S39)))))) ∧ (x0 = 54 → ((¬ x1 = 0 → M_Wr_truth h d 1 S (fun (r40 : Int32) (S40 : xSt) => K r40 S40)) ∧ (x1 = 0 → ((x2 = 0 → M_Wr_truth h d 0 S (fun (r41 : Int32) (S41 : xSt) => K r41 S41)) ∧ (¬ x2 = 0 → M_Wr_truth h d 1 S (fun (r42 : Int32) (S42 : xSt) => K r42 S42)))))) ∧ (x0 = 55 → ((¬ x1 = 0 → M_Wr_truth h d 1 S (fun (r43 : Int32) (S43 : xSt) => K r43 S43)) ∧ (x1 = 0 → ((x2 = 0 → M_Wr_truth h d 0 S (fun (r44 : Int32) (S44 : xSt) => K r44 S44)) ∧ (¬ x2 = 0 → M_Wr_truth h d 1 S (fun (r45 : Int32) (S45 : xSt) => K r45 S45)))))) ∧ (x0 = 56 → ((¬ x1 = 0 → M_Wr_truth h d 1 S (fun (r46 : Int32) (S46 : xSt) => K r46 S46)) ∧ (x1 = 0 → ((x2 = 0 → M_Wr_truth h d 0 S (fun (r47 : Int32) (S47 : xSt) => K r47 S47)) ∧ (¬ x2 = 0 → M_Wr_truth h d 1 S (fun (r48 : Int32) (S48 : xSt) => K r48 S48)))))) ∧ (x0 = 57 → ((¬ x1 = 0 → M_Wr_truth h d 1 S (fun (r49 : Int32) (S49 : xSt) => K r49 S49)) ∧ (x1 = 0 → ((x2 = 0 → M_Wr_truth h d 0 S (fun (r50 : Int32) (S50 : xSt) => K r50 S50)) ∧ (¬ x2 = 0 → M_Wr_truth h d 1 S (fun (r51 : Int32) (S51 : xSt) => K r51 S51)))))) ∧ (x0 = 58 → ((¬ x1 = 0 → M_Wr_truth h d 1 S (fun (r52 : Int32) (S52 : xSt) => K r52 S52)) ∧ (x1 = 0 → ((x2 = 0 → M_Wr_truth h d 0 S (fun (r53 : Int32) (S53 : xSt) => K r53 S53)) ∧ (¬ x2 = 0 → M_Wr_truth h d 1 S (fun (r54 : Int32) (S54 : xSt) => K r54 S54)))))) ∧ (x0 = 59 → ((¬ x1 = 0 → M_Wr_truth h d 1 S (fun (r55 : Int32) (S55 : xSt) => K r55 S55)) ∧ (x1 = 0 → ((x2 = 0 → M_Wr_truth h d 0 S (fun (r56 : Int32) (S56 : xSt) => K r56 S56)) ∧ (¬ x2 = 0 → M_Wr_truth h d 1 S (fun (r57 : Int32) (S57 : xSt) => K r57 S57)))))) ∧ (x0 = 60 → ((x2 ≤ x1 → M_Wr_truth h d 0 S (fun (r58 : Int32) (S58 : xSt) => K r58 S58)) ∧ (¬ x2 ≤ x1 → M_Wr_truth h d 1 S (fun (r59 : Int32) (S59 : xSt) => K r59 S59)))) ∧ (x0 = 61 → ((¬ x1 = x2 → M_Wr_truth h d 0 S (fun (r60 : Int32) (S60 : xSt) => K r60 S60)) ∧ (x1 = x2 → M_Wr_truth h d 1 S (fun (r61 : Int32) (S61 : xSt) => K r61 S61)))) ∧ (x0 = 62 → ((x1 ≤ x2 → M_Wr_truth h d 0 S (fun (r62 : Int32) (S62 : xSt) => K r62 S62)) ∧ (¬ x1 ≤ x2 → M_Wr_truth h d 1 S (fun (r63 : Int32) (S63 : xSt) => K r63 S63)))))) : M_Wr_join h d x0 x1 x2 S K := by
  refine x_enter pn_X10 (Nat.le_of_ble_eq_true rfl) ?_
  show X (gC h) _ _ 0 [(0, .int x0), (1, .int x1), (2, .int x2)] [] S _
  refine x_iload_n (x_at tdX10_join 0 rfl) rfl rfl ?_
  by_cases hq : (x0 : Int32).toInt < 37 ∨ 62 < (x0 : Int32).toInt
  · refine x_tableOut 215 (x_at tdX10_join 1 rfl) hq rfl ?_
    have H := H.1 hq
    refine x_iload_n (x_at tdX10_join 63 rfl) rfl rfl ?_
    refine x_if_ne 223 (x_at tdX10_join 64 rfl) rfl (fun c => ?_) (fun c => ?_)
    · have H := H.1 c
      refine x_iconst (x_at tdX10_join 67 rfl) k_c_1 ?_
      refine x_goto 228 (x_at tdX10_join 68 rfl) rfl ?_
      refine x_cSi (as := [.int 1]) (rest := []) mi_X10_truth (x_at tdX10_join 70 rfl) wm_X10_35 rfl (Nat.le_of_ble_eq_true rfl) rfl H (fun r1 S1 H => ?_)
      exact x_ireturn (ty := .int) rfl rfl (x_at tdX10_join 71 rfl) ⟨_, rfl, H⟩
    · have H := H.2 c
      refine x_iload_n (x_at tdX10_join 65 rfl) rfl rfl ?_
      refine x_if_eq 227 (x_at tdX10_join 66 rfl) rfl (fun c => ?_) (fun c => ?_)
      · have H := H.1 c
        refine x_iconst (x_at tdX10_join 69 rfl) k_c_0 ?_
        refine x_cSi (as := [.int 0]) (rest := []) mi_X10_truth (x_at tdX10_join 70 rfl) wm_X10_35 rfl (Nat.le_of_ble_eq_true rfl) rfl H (fun r2 S2 H => ?_)
        exact x_ireturn (ty := .int) rfl rfl (x_at tdX10_join 71 rfl) ⟨_, rfl, H⟩
      · have H := H.2 c
        refine x_iconst (x_at tdX10_join 67 rfl) k_c_1 ?_
        refine x_goto 228 (x_at tdX10_join 68 rfl) rfl ?_
        refine x_cSi (as := [.int 1]) (rest := []) mi_X10_truth (x_at tdX10_join 70 rfl) wm_X10_35 rfl (Nat.le_of_ble_eq_true rfl) rfl H (fun r3 S3 H => ?_)
        exact x_ireturn (ty := .int) rfl rfl (x_at tdX10_join 71 rfl) ⟨_, rfl, H⟩
  · rcases sw_in_37_62 hq with hx | hx | hx | hx | hx | hx | hx | hx | hx | hx | hx | hx | hx | hx | hx | hx | hx | hx | hx | hx | hx | hx | hx | hx | hx | hx
    · refine x_tsw 144 (x_at tdX10_join 1 rfl) hx (by decide) (by decide) rfl rfl ?_
      have H := H.2.1 hx
      refine x_iload_n (x_at tdX10_join 22 rfl) rfl rfl ?_
      refine x_if_ne 152 (x_at tdX10_join 23 rfl) rfl (fun c => ?_) (fun c => ?_)
      · have H := H.1 c
        refine x_iload_n (x_at tdX10_join 26 rfl) rfl rfl ?_
        refine x_iload_n (x_at tdX10_join 27 rfl) rfl rfl ?_
        refine x_irem (x_at tdX10_join 28 rfl) H.1 ?_
        have H := H.2
        exact x_ireturn (ty := .int) rfl rfl (x_at tdX10_join 29 rfl) ⟨_, rfl, H⟩
      · have H := H.2 c
        refine x_iconst (x_at tdX10_join 24 rfl) k_c_0 ?_
        refine x_goto 155 (x_at tdX10_join 25 rfl) rfl ?_
        exact x_ireturn (ty := .int) rfl rfl (x_at tdX10_join 29 rfl) ⟨_, rfl, H⟩
    · refine x_tsw 198 (x_at tdX10_join 1 rfl) hx (by decide) (by decide) rfl rfl ?_
      have H := H.2.2.1 hx
      refine x_iload_n (x_at tdX10_join 54 rfl) rfl rfl ?_
      refine x_if_eq 210 (x_at tdX10_join 55 rfl) rfl (fun c => ?_) (fun c => ?_)
      · have H := H.1 c
        refine x_iconst (x_at tdX10_join 60 rfl) k_c_0 ?_
        refine x_cSi (as := [.int 0]) (rest := []) mi_X10_truth (x_at tdX10_join 61 rfl) wm_X10_35 rfl (Nat.le_of_ble_eq_true rfl) rfl H (fun r4 S4 H => ?_)
        exact x_ireturn (ty := .int) rfl rfl (x_at tdX10_join 62 rfl) ⟨_, rfl, H⟩
      · have H := H.2 c
        refine x_iload_n (x_at tdX10_join 56 rfl) rfl rfl ?_
        refine x_if_eq 210 (x_at tdX10_join 57 rfl) rfl (fun c => ?_) (fun c => ?_)
        · have H := H.1 c
          refine x_iconst (x_at tdX10_join 60 rfl) k_c_0 ?_
          refine x_cSi (as := [.int 0]) (rest := []) mi_X10_truth (x_at tdX10_join 61 rfl) wm_X10_35 rfl (Nat.le_of_ble_eq_true rfl) rfl H (fun r5 S5 H => ?_)
          exact x_ireturn (ty := .int) rfl rfl (x_at tdX10_join 62 rfl) ⟨_, rfl, H⟩
        · have H := H.2 c
          refine x_iconst (x_at tdX10_join 58 rfl) k_c_1 ?_
          refine x_goto 211 (x_at tdX10_join 59 rfl) rfl ?_
          refine x_cSi (as := [.int 1]) (rest := []) mi_X10_truth (x_at tdX10_join 61 rfl) wm_X10_35 rfl (Nat.le_of_ble_eq_true rfl) rfl H (fun r6 S6 H => ?_)
          exact x_ireturn (ty := .int) rfl rfl (x_at tdX10_join 62 rfl) ⟨_, rfl, H⟩
    · refine x_tsw 215 (x_at tdX10_join 1 rfl) hx (by decide) (by decide) rfl rfl ?_
      have H := H.2.2.2.1 hx
      refine x_iload_n (x_at tdX10_join 63 rfl) rfl rfl ?_
      refine x_if_ne 223 (x_at tdX10_join 64 rfl) rfl (fun c => ?_) (fun c => ?_)
      · have H := H.1 c
        refine x_iconst (x_at tdX10_join 67 rfl) k_c_1 ?_
        refine x_goto 228 (x_at tdX10_join 68 rfl) rfl ?_
        refine x_cSi (as := [.int 1]) (rest := []) mi_X10_truth (x_at tdX10_join 70 rfl) wm_X10_35 rfl (Nat.le_of_ble_eq_true rfl) rfl H (fun r7 S7 H => ?_)
        exact x_ireturn (ty := .int) rfl rfl (x_at tdX10_join 71 rfl) ⟨_, rfl, H⟩
      · have H := H.2 c
        refine x_iload_n (x_at tdX10_join 65 rfl) rfl rfl ?_
        refine x_if_eq 227 (x_at tdX10_join 66 rfl) rfl (fun c => ?_) (fun c => ?_)
        · have H := H.1 c
          refine x_iconst (x_at tdX10_join 69 rfl) k_c_0 ?_
          refine x_cSi (as := [.int 0]) (rest := []) mi_X10_truth (x_at tdX10_join 70 rfl) wm_X10_35 rfl (Nat.le_of_ble_eq_true rfl) rfl H (fun r8 S8 H => ?_)
          exact x_ireturn (ty := .int) rfl rfl (x_at tdX10_join 71 rfl) ⟨_, rfl, H⟩
        · have H := H.2 c
          refine x_iconst (x_at tdX10_join 67 rfl) k_c_1 ?_
          refine x_goto 228 (x_at tdX10_join 68 rfl) rfl ?_
          refine x_cSi (as := [.int 1]) (rest := []) mi_X10_truth (x_at tdX10_join 70 rfl) wm_X10_35 rfl (Nat.le_of_ble_eq_true rfl) rfl H (fun r9 S9 H => ?_)
          exact x_ireturn (ty := .int) rfl rfl (x_at tdX10_join 71 rfl) ⟨_, rfl, H⟩
    · refine x_tsw 215 (x_at tdX10_join 1 rfl) hx (by decide) (by decide) rfl rfl ?_
      have H := H.2.2.2.2.1 hx
      refine x_iload_n (x_at tdX10_join 63 rfl) rfl rfl ?_
      refine x_if_ne 223 (x_at tdX10_join 64 rfl) rfl (fun c => ?_) (fun c => ?_)
      · have H := H.1 c
        refine x_iconst (x_at tdX10_join 67 rfl) k_c_1 ?_
        refine x_goto 228 (x_at tdX10_join 68 rfl) rfl ?_
        refine x_cSi (as := [.int 1]) (rest := []) mi_X10_truth (x_at tdX10_join 70 rfl) wm_X10_35 rfl (Nat.le_of_ble_eq_true rfl) rfl H (fun r10 S10 H => ?_)
        exact x_ireturn (ty := .int) rfl rfl (x_at tdX10_join 71 rfl) ⟨_, rfl, H⟩
      · have H := H.2 c
        refine x_iload_n (x_at tdX10_join 65 rfl) rfl rfl ?_
        refine x_if_eq 227 (x_at tdX10_join 66 rfl) rfl (fun c => ?_) (fun c => ?_)
        · have H := H.1 c
          refine x_iconst (x_at tdX10_join 69 rfl) k_c_0 ?_
          refine x_cSi (as := [.int 0]) (rest := []) mi_X10_truth (x_at tdX10_join 70 rfl) wm_X10_35 rfl (Nat.le_of_ble_eq_true rfl) rfl H (fun r11 S11 H => ?_)
          exact x_ireturn (ty := .int) rfl rfl (x_at tdX10_join 71 rfl) ⟨_, rfl, H⟩
        · have H := H.2 c
          refine x_iconst (x_at tdX10_join 67 rfl) k_c_1 ?_
          refine x_goto 228 (x_at tdX10_join 68 rfl) rfl ?_
          refine x_cSi (as := [.int 1]) (rest := []) mi_X10_truth (x_at tdX10_join 70 rfl) wm_X10_35 rfl (Nat.le_of_ble_eq_true rfl) rfl H (fun r12 S12 H => ?_)
          exact x_ireturn (ty := .int) rfl rfl (x_at tdX10_join 71 rfl) ⟨_, rfl, H⟩
    · refine x_tsw 215 (x_at tdX10_join 1 rfl) hx (by decide) (by decide) rfl rfl ?_
      have H := H.2.2.2.2.2.1 hx
      refine x_iload_n (x_at tdX10_join 63 rfl) rfl rfl ?_
      refine x_if_ne 223 (x_at tdX10_join 64 rfl) rfl (fun c => ?_) (fun c => ?_)
      · have H := H.1 c
        refine x_iconst (x_at tdX10_join 67 rfl) k_c_1 ?_
        refine x_goto 228 (x_at tdX10_join 68 rfl) rfl ?_
        refine x_cSi (as := [.int 1]) (rest := []) mi_X10_truth (x_at tdX10_join 70 rfl) wm_X10_35 rfl (Nat.le_of_ble_eq_true rfl) rfl H (fun r13 S13 H => ?_)
        exact x_ireturn (ty := .int) rfl rfl (x_at tdX10_join 71 rfl) ⟨_, rfl, H⟩
      · have H := H.2 c
        refine x_iload_n (x_at tdX10_join 65 rfl) rfl rfl ?_
        refine x_if_eq 227 (x_at tdX10_join 66 rfl) rfl (fun c => ?_) (fun c => ?_)
        · have H := H.1 c
          refine x_iconst (x_at tdX10_join 69 rfl) k_c_0 ?_
          refine x_cSi (as := [.int 0]) (rest := []) mi_X10_truth (x_at tdX10_join 70 rfl) wm_X10_35 rfl (Nat.le_of_ble_eq_true rfl) rfl H (fun r14 S14 H => ?_)
          exact x_ireturn (ty := .int) rfl rfl (x_at tdX10_join 71 rfl) ⟨_, rfl, H⟩
        · have H := H.2 c
          refine x_iconst (x_at tdX10_join 67 rfl) k_c_1 ?_
          refine x_goto 228 (x_at tdX10_join 68 rfl) rfl ?_
          refine x_cSi (as := [.int 1]) (rest := []) mi_X10_truth (x_at tdX10_join 70 rfl) wm_X10_35 rfl (Nat.le_of_ble_eq_true rfl) rfl H (fun r15 S15 H => ?_)
          exact x_ireturn (ty := .int) rfl rfl (x_at tdX10_join 71 rfl) ⟨_, rfl, H⟩
    · refine x_tsw 128 (x_at tdX10_join 1 rfl) hx (by decide) (by decide) rfl rfl ?_
      have H := H.2.2.2.2.2.2.1 hx
      refine x_iload_n (x_at tdX10_join 10 rfl) rfl rfl ?_
      refine x_iload_n (x_at tdX10_join 11 rfl) rfl rfl ?_
      refine x_imul (x_at tdX10_join 12 rfl) ?_
      exact x_ireturn (ty := .int) rfl rfl (x_at tdX10_join 13 rfl) ⟨_, rfl, H⟩
    · refine x_tsw 120 (x_at tdX10_join 1 rfl) hx (by decide) (by decide) rfl rfl ?_
      have H := H.2.2.2.2.2.2.2.1 hx
      refine x_iload_n (x_at tdX10_join 2 rfl) rfl rfl ?_
      refine x_iload_n (x_at tdX10_join 3 rfl) rfl rfl ?_
      refine x_iadd (x_at tdX10_join 4 rfl) ?_
      exact x_ireturn (ty := .int) rfl rfl (x_at tdX10_join 5 rfl) ⟨_, rfl, H⟩
    · refine x_tsw 215 (x_at tdX10_join 1 rfl) hx (by decide) (by decide) rfl rfl ?_
      have H := H.2.2.2.2.2.2.2.2.1 hx
      refine x_iload_n (x_at tdX10_join 63 rfl) rfl rfl ?_
      refine x_if_ne 223 (x_at tdX10_join 64 rfl) rfl (fun c => ?_) (fun c => ?_)
      · have H := H.1 c
        refine x_iconst (x_at tdX10_join 67 rfl) k_c_1 ?_
        refine x_goto 228 (x_at tdX10_join 68 rfl) rfl ?_
        refine x_cSi (as := [.int 1]) (rest := []) mi_X10_truth (x_at tdX10_join 70 rfl) wm_X10_35 rfl (Nat.le_of_ble_eq_true rfl) rfl H (fun r16 S16 H => ?_)
        exact x_ireturn (ty := .int) rfl rfl (x_at tdX10_join 71 rfl) ⟨_, rfl, H⟩
      · have H := H.2 c
        refine x_iload_n (x_at tdX10_join 65 rfl) rfl rfl ?_
        refine x_if_eq 227 (x_at tdX10_join 66 rfl) rfl (fun c => ?_) (fun c => ?_)
        · have H := H.1 c
          refine x_iconst (x_at tdX10_join 69 rfl) k_c_0 ?_
          refine x_cSi (as := [.int 0]) (rest := []) mi_X10_truth (x_at tdX10_join 70 rfl) wm_X10_35 rfl (Nat.le_of_ble_eq_true rfl) rfl H (fun r17 S17 H => ?_)
          exact x_ireturn (ty := .int) rfl rfl (x_at tdX10_join 71 rfl) ⟨_, rfl, H⟩
        · have H := H.2 c
          refine x_iconst (x_at tdX10_join 67 rfl) k_c_1 ?_
          refine x_goto 228 (x_at tdX10_join 68 rfl) rfl ?_
          refine x_cSi (as := [.int 1]) (rest := []) mi_X10_truth (x_at tdX10_join 70 rfl) wm_X10_35 rfl (Nat.le_of_ble_eq_true rfl) rfl H (fun r18 S18 H => ?_)
          exact x_ireturn (ty := .int) rfl rfl (x_at tdX10_join 71 rfl) ⟨_, rfl, H⟩
    · refine x_tsw 124 (x_at tdX10_join 1 rfl) hx (by decide) (by decide) rfl rfl ?_
      have H := H.2.2.2.2.2.2.2.2.2.1 hx
      refine x_iload_n (x_at tdX10_join 6 rfl) rfl rfl ?_
      refine x_iload_n (x_at tdX10_join 7 rfl) rfl rfl ?_
      refine x_isub (x_at tdX10_join 8 rfl) ?_
      exact x_ireturn (ty := .int) rfl rfl (x_at tdX10_join 9 rfl) ⟨_, rfl, H⟩
    · refine x_tsw 215 (x_at tdX10_join 1 rfl) hx (by decide) (by decide) rfl rfl ?_
      have H := H.2.2.2.2.2.2.2.2.2.2.1 hx
      refine x_iload_n (x_at tdX10_join 63 rfl) rfl rfl ?_
      refine x_if_ne 223 (x_at tdX10_join 64 rfl) rfl (fun c => ?_) (fun c => ?_)
      · have H := H.1 c
        refine x_iconst (x_at tdX10_join 67 rfl) k_c_1 ?_
        refine x_goto 228 (x_at tdX10_join 68 rfl) rfl ?_
        refine x_cSi (as := [.int 1]) (rest := []) mi_X10_truth (x_at tdX10_join 70 rfl) wm_X10_35 rfl (Nat.le_of_ble_eq_true rfl) rfl H (fun r19 S19 H => ?_)
        exact x_ireturn (ty := .int) rfl rfl (x_at tdX10_join 71 rfl) ⟨_, rfl, H⟩
      · have H := H.2 c
        refine x_iload_n (x_at tdX10_join 65 rfl) rfl rfl ?_
        refine x_if_eq 227 (x_at tdX10_join 66 rfl) rfl (fun c => ?_) (fun c => ?_)
        · have H := H.1 c
          refine x_iconst (x_at tdX10_join 69 rfl) k_c_0 ?_
          refine x_cSi (as := [.int 0]) (rest := []) mi_X10_truth (x_at tdX10_join 70 rfl) wm_X10_35 rfl (Nat.le_of_ble_eq_true rfl) rfl H (fun r20 S20 H => ?_)
          exact x_ireturn (ty := .int) rfl rfl (x_at tdX10_join 71 rfl) ⟨_, rfl, H⟩
        · have H := H.2 c
          refine x_iconst (x_at tdX10_join 67 rfl) k_c_1 ?_
          refine x_goto 228 (x_at tdX10_join 68 rfl) rfl ?_
          refine x_cSi (as := [.int 1]) (rest := []) mi_X10_truth (x_at tdX10_join 70 rfl) wm_X10_35 rfl (Nat.le_of_ble_eq_true rfl) rfl H (fun r21 S21 H => ?_)
          exact x_ireturn (ty := .int) rfl rfl (x_at tdX10_join 71 rfl) ⟨_, rfl, H⟩
    · refine x_tsw 132 (x_at tdX10_join 1 rfl) hx (by decide) (by decide) rfl rfl ?_
      have H := H.2.2.2.2.2.2.2.2.2.2.2.1 hx
      refine x_iload_n (x_at tdX10_join 14 rfl) rfl rfl ?_
      refine x_if_ne 140 (x_at tdX10_join 15 rfl) rfl (fun c => ?_) (fun c => ?_)
      · have H := H.1 c
        refine x_iload_n (x_at tdX10_join 18 rfl) rfl rfl ?_
        refine x_iload_n (x_at tdX10_join 19 rfl) rfl rfl ?_
        refine x_idiv (x_at tdX10_join 20 rfl) H.1 ?_
        have H := H.2
        exact x_ireturn (ty := .int) rfl rfl (x_at tdX10_join 21 rfl) ⟨_, rfl, H⟩
      · have H := H.2 c
        refine x_iconst (x_at tdX10_join 16 rfl) k_c_0 ?_
        refine x_goto 143 (x_at tdX10_join 17 rfl) rfl ?_
        exact x_ireturn (ty := .int) rfl rfl (x_at tdX10_join 21 rfl) ⟨_, rfl, H⟩
    · refine x_tsw 215 (x_at tdX10_join 1 rfl) hx (by decide) (by decide) rfl rfl ?_
      have H := H.2.2.2.2.2.2.2.2.2.2.2.2.1 hx
      refine x_iload_n (x_at tdX10_join 63 rfl) rfl rfl ?_
      refine x_if_ne 223 (x_at tdX10_join 64 rfl) rfl (fun c => ?_) (fun c => ?_)
      · have H := H.1 c
        refine x_iconst (x_at tdX10_join 67 rfl) k_c_1 ?_
        refine x_goto 228 (x_at tdX10_join 68 rfl) rfl ?_
        refine x_cSi (as := [.int 1]) (rest := []) mi_X10_truth (x_at tdX10_join 70 rfl) wm_X10_35 rfl (Nat.le_of_ble_eq_true rfl) rfl H (fun r22 S22 H => ?_)
        exact x_ireturn (ty := .int) rfl rfl (x_at tdX10_join 71 rfl) ⟨_, rfl, H⟩
      · have H := H.2 c
        refine x_iload_n (x_at tdX10_join 65 rfl) rfl rfl ?_
        refine x_if_eq 227 (x_at tdX10_join 66 rfl) rfl (fun c => ?_) (fun c => ?_)
        · have H := H.1 c
          refine x_iconst (x_at tdX10_join 69 rfl) k_c_0 ?_
          refine x_cSi (as := [.int 0]) (rest := []) mi_X10_truth (x_at tdX10_join 70 rfl) wm_X10_35 rfl (Nat.le_of_ble_eq_true rfl) rfl H (fun r23 S23 H => ?_)
          exact x_ireturn (ty := .int) rfl rfl (x_at tdX10_join 71 rfl) ⟨_, rfl, H⟩
        · have H := H.2 c
          refine x_iconst (x_at tdX10_join 67 rfl) k_c_1 ?_
          refine x_goto 228 (x_at tdX10_join 68 rfl) rfl ?_
          refine x_cSi (as := [.int 1]) (rest := []) mi_X10_truth (x_at tdX10_join 70 rfl) wm_X10_35 rfl (Nat.le_of_ble_eq_true rfl) rfl H (fun r24 S24 H => ?_)
          exact x_ireturn (ty := .int) rfl rfl (x_at tdX10_join 71 rfl) ⟨_, rfl, H⟩
    · refine x_tsw 215 (x_at tdX10_join 1 rfl) hx (by decide) (by decide) rfl rfl ?_
      have H := H.2.2.2.2.2.2.2.2.2.2.2.2.2.1 hx
      refine x_iload_n (x_at tdX10_join 63 rfl) rfl rfl ?_
      refine x_if_ne 223 (x_at tdX10_join 64 rfl) rfl (fun c => ?_) (fun c => ?_)
      · have H := H.1 c
        refine x_iconst (x_at tdX10_join 67 rfl) k_c_1 ?_
        refine x_goto 228 (x_at tdX10_join 68 rfl) rfl ?_
        refine x_cSi (as := [.int 1]) (rest := []) mi_X10_truth (x_at tdX10_join 70 rfl) wm_X10_35 rfl (Nat.le_of_ble_eq_true rfl) rfl H (fun r25 S25 H => ?_)
        exact x_ireturn (ty := .int) rfl rfl (x_at tdX10_join 71 rfl) ⟨_, rfl, H⟩
      · have H := H.2 c
        refine x_iload_n (x_at tdX10_join 65 rfl) rfl rfl ?_
        refine x_if_eq 227 (x_at tdX10_join 66 rfl) rfl (fun c => ?_) (fun c => ?_)
        · have H := H.1 c
          refine x_iconst (x_at tdX10_join 69 rfl) k_c_0 ?_
          refine x_cSi (as := [.int 0]) (rest := []) mi_X10_truth (x_at tdX10_join 70 rfl) wm_X10_35 rfl (Nat.le_of_ble_eq_true rfl) rfl H (fun r26 S26 H => ?_)
          exact x_ireturn (ty := .int) rfl rfl (x_at tdX10_join 71 rfl) ⟨_, rfl, H⟩
        · have H := H.2 c
          refine x_iconst (x_at tdX10_join 67 rfl) k_c_1 ?_
          refine x_goto 228 (x_at tdX10_join 68 rfl) rfl ?_
          refine x_cSi (as := [.int 1]) (rest := []) mi_X10_truth (x_at tdX10_join 70 rfl) wm_X10_35 rfl (Nat.le_of_ble_eq_true rfl) rfl H (fun r27 S27 H => ?_)
          exact x_ireturn (ty := .int) rfl rfl (x_at tdX10_join 71 rfl) ⟨_, rfl, H⟩
    · refine x_tsw 215 (x_at tdX10_join 1 rfl) hx (by decide) (by decide) rfl rfl ?_
      have H := H.2.2.2.2.2.2.2.2.2.2.2.2.2.2.1 hx
      refine x_iload_n (x_at tdX10_join 63 rfl) rfl rfl ?_
      refine x_if_ne 223 (x_at tdX10_join 64 rfl) rfl (fun c => ?_) (fun c => ?_)
      · have H := H.1 c
        refine x_iconst (x_at tdX10_join 67 rfl) k_c_1 ?_
        refine x_goto 228 (x_at tdX10_join 68 rfl) rfl ?_
        refine x_cSi (as := [.int 1]) (rest := []) mi_X10_truth (x_at tdX10_join 70 rfl) wm_X10_35 rfl (Nat.le_of_ble_eq_true rfl) rfl H (fun r28 S28 H => ?_)
        exact x_ireturn (ty := .int) rfl rfl (x_at tdX10_join 71 rfl) ⟨_, rfl, H⟩
      · have H := H.2 c
        refine x_iload_n (x_at tdX10_join 65 rfl) rfl rfl ?_
        refine x_if_eq 227 (x_at tdX10_join 66 rfl) rfl (fun c => ?_) (fun c => ?_)
        · have H := H.1 c
          refine x_iconst (x_at tdX10_join 69 rfl) k_c_0 ?_
          refine x_cSi (as := [.int 0]) (rest := []) mi_X10_truth (x_at tdX10_join 70 rfl) wm_X10_35 rfl (Nat.le_of_ble_eq_true rfl) rfl H (fun r29 S29 H => ?_)
          exact x_ireturn (ty := .int) rfl rfl (x_at tdX10_join 71 rfl) ⟨_, rfl, H⟩
        · have H := H.2 c
          refine x_iconst (x_at tdX10_join 67 rfl) k_c_1 ?_
          refine x_goto 228 (x_at tdX10_join 68 rfl) rfl ?_
          refine x_cSi (as := [.int 1]) (rest := []) mi_X10_truth (x_at tdX10_join 70 rfl) wm_X10_35 rfl (Nat.le_of_ble_eq_true rfl) rfl H (fun r30 S30 H => ?_)
          exact x_ireturn (ty := .int) rfl rfl (x_at tdX10_join 71 rfl) ⟨_, rfl, H⟩
    · refine x_tsw 215 (x_at tdX10_join 1 rfl) hx (by decide) (by decide) rfl rfl ?_
      have H := H.2.2.2.2.2.2.2.2.2.2.2.2.2.2.2.1 hx
      refine x_iload_n (x_at tdX10_join 63 rfl) rfl rfl ?_
      refine x_if_ne 223 (x_at tdX10_join 64 rfl) rfl (fun c => ?_) (fun c => ?_)
      · have H := H.1 c
        refine x_iconst (x_at tdX10_join 67 rfl) k_c_1 ?_
        refine x_goto 228 (x_at tdX10_join 68 rfl) rfl ?_
        refine x_cSi (as := [.int 1]) (rest := []) mi_X10_truth (x_at tdX10_join 70 rfl) wm_X10_35 rfl (Nat.le_of_ble_eq_true rfl) rfl H (fun r31 S31 H => ?_)
        exact x_ireturn (ty := .int) rfl rfl (x_at tdX10_join 71 rfl) ⟨_, rfl, H⟩
      · have H := H.2 c
        refine x_iload_n (x_at tdX10_join 65 rfl) rfl rfl ?_
        refine x_if_eq 227 (x_at tdX10_join 66 rfl) rfl (fun c => ?_) (fun c => ?_)
        · have H := H.1 c
          refine x_iconst (x_at tdX10_join 69 rfl) k_c_0 ?_
          refine x_cSi (as := [.int 0]) (rest := []) mi_X10_truth (x_at tdX10_join 70 rfl) wm_X10_35 rfl (Nat.le_of_ble_eq_true rfl) rfl H (fun r32 S32 H => ?_)
          exact x_ireturn (ty := .int) rfl rfl (x_at tdX10_join 71 rfl) ⟨_, rfl, H⟩
        · have H := H.2 c
          refine x_iconst (x_at tdX10_join 67 rfl) k_c_1 ?_
          refine x_goto 228 (x_at tdX10_join 68 rfl) rfl ?_
          refine x_cSi (as := [.int 1]) (rest := []) mi_X10_truth (x_at tdX10_join 70 rfl) wm_X10_35 rfl (Nat.le_of_ble_eq_true rfl) rfl H (fun r33 S33 H => ?_)
          exact x_ireturn (ty := .int) rfl rfl (x_at tdX10_join 71 rfl) ⟨_, rfl, H⟩
    · refine x_tsw 215 (x_at tdX10_join 1 rfl) hx (by decide) (by decide) rfl rfl ?_
      have H := H.2.2.2.2.2.2.2.2.2.2.2.2.2.2.2.2.1 hx
      refine x_iload_n (x_at tdX10_join 63 rfl) rfl rfl ?_
      refine x_if_ne 223 (x_at tdX10_join 64 rfl) rfl (fun c => ?_) (fun c => ?_)
      · have H := H.1 c
        refine x_iconst (x_at tdX10_join 67 rfl) k_c_1 ?_
        refine x_goto 228 (x_at tdX10_join 68 rfl) rfl ?_
        refine x_cSi (as := [.int 1]) (rest := []) mi_X10_truth (x_at tdX10_join 70 rfl) wm_X10_35 rfl (Nat.le_of_ble_eq_true rfl) rfl H (fun r34 S34 H => ?_)
        exact x_ireturn (ty := .int) rfl rfl (x_at tdX10_join 71 rfl) ⟨_, rfl, H⟩
      · have H := H.2 c
        refine x_iload_n (x_at tdX10_join 65 rfl) rfl rfl ?_
        refine x_if_eq 227 (x_at tdX10_join 66 rfl) rfl (fun c => ?_) (fun c => ?_)
        · have H := H.1 c
          refine x_iconst (x_at tdX10_join 69 rfl) k_c_0 ?_
          refine x_cSi (as := [.int 0]) (rest := []) mi_X10_truth (x_at tdX10_join 70 rfl) wm_X10_35 rfl (Nat.le_of_ble_eq_true rfl) rfl H (fun r35 S35 H => ?_)
          exact x_ireturn (ty := .int) rfl rfl (x_at tdX10_join 71 rfl) ⟨_, rfl, H⟩
        · have H := H.2 c
          refine x_iconst (x_at tdX10_join 67 rfl) k_c_1 ?_
          refine x_goto 228 (x_at tdX10_join 68 rfl) rfl ?_
          refine x_cSi (as := [.int 1]) (rest := []) mi_X10_truth (x_at tdX10_join 70 rfl) wm_X10_35 rfl (Nat.le_of_ble_eq_true rfl) rfl H (fun r36 S36 H => ?_)
          exact x_ireturn (ty := .int) rfl rfl (x_at tdX10_join 71 rfl) ⟨_, rfl, H⟩
    · refine x_tsw 215 (x_at tdX10_join 1 rfl) hx (by decide) (by decide) rfl rfl ?_
      have H := H.2.2.2.2.2.2.2.2.2.2.2.2.2.2.2.2.2.1 hx
      refine x_iload_n (x_at tdX10_join 63 rfl) rfl rfl ?_
      refine x_if_ne 223 (x_at tdX10_join 64 rfl) rfl (fun c => ?_) (fun c => ?_)
      · have H := H.1 c
        refine x_iconst (x_at tdX10_join 67 rfl) k_c_1 ?_
        refine x_goto 228 (x_at tdX10_join 68 rfl) rfl ?_
        refine x_cSi (as := [.int 1]) (rest := []) mi_X10_truth (x_at tdX10_join 70 rfl) wm_X10_35 rfl (Nat.le_of_ble_eq_true rfl) rfl H (fun r37 S37 H => ?_)
        exact x_ireturn (ty := .int) rfl rfl (x_at tdX10_join 71 rfl) ⟨_, rfl, H⟩
      · have H := H.2 c
        refine x_iload_n (x_at tdX10_join 65 rfl) rfl rfl ?_
        refine x_if_eq 227 (x_at tdX10_join 66 rfl) rfl (fun c => ?_) (fun c => ?_)
        · have H := H.1 c
          refine x_iconst (x_at tdX10_join 69 rfl) k_c_0 ?_
          refine x_cSi (as := [.int 0]) (rest := []) mi_X10_truth (x_at tdX10_join 70 rfl) wm_X10_35 rfl (Nat.le_of_ble_eq_true rfl) rfl H (fun r38 S38 H => ?_)
          exact x_ireturn (ty := .int) rfl rfl (x_at tdX10_join 71 rfl) ⟨_, rfl, H⟩
        · have H := H.2 c
          refine x_iconst (x_at tdX10_join 67 rfl) k_c_1 ?_
          refine x_goto 228 (x_at tdX10_join 68 rfl) rfl ?_
          refine x_cSi (as := [.int 1]) (rest := []) mi_X10_truth (x_at tdX10_join 70 rfl) wm_X10_35 rfl (Nat.le_of_ble_eq_true rfl) rfl H (fun r39 S39 H => ?_)
          exact x_ireturn (ty := .int) rfl rfl (x_at tdX10_join 71 rfl) ⟨_, rfl, H⟩
    · refine x_tsw 215 (x_at tdX10_join 1 rfl) hx (by decide) (by decide) rfl rfl ?_
      have H := H.2.2.2.2.2.2.2.2.2.2.2.2.2.2.2.2.2.2.1 hx
      refine x_iload_n (x_at tdX10_join 63 rfl) rfl rfl ?_
      refine x_if_ne 223 (x_at tdX10_join 64 rfl) rfl (fun c => ?_) (fun c => ?_)
      · have H := H.1 c
        refine x_iconst (x_at tdX10_join 67 rfl) k_c_1 ?_
        refine x_goto 228 (x_at tdX10_join 68 rfl) rfl ?_
        refine x_cSi (as := [.int 1]) (rest := []) mi_X10_truth (x_at tdX10_join 70 rfl) wm_X10_35 rfl (Nat.le_of_ble_eq_true rfl) rfl H (fun r40 S40 H => ?_)
        exact x_ireturn (ty := .int) rfl rfl (x_at tdX10_join 71 rfl) ⟨_, rfl, H⟩
      · have H := H.2 c
        refine x_iload_n (x_at tdX10_join 65 rfl) rfl rfl ?_
        refine x_if_eq 227 (x_at tdX10_join 66 rfl) rfl (fun c => ?_) (fun c => ?_)
        · have H := H.1 c
          refine x_iconst (x_at tdX10_join 69 rfl) k_c_0 ?_
          refine x_cSi (as := [.int 0]) (rest := []) mi_X10_truth (x_at tdX10_join 70 rfl) wm_X10_35 rfl (Nat.le_of_ble_eq_true rfl) rfl H (fun r41 S41 H => ?_)
          exact x_ireturn (ty := .int) rfl rfl (x_at tdX10_join 71 rfl) ⟨_, rfl, H⟩
        · have H := H.2 c
          refine x_iconst (x_at tdX10_join 67 rfl) k_c_1 ?_
          refine x_goto 228 (x_at tdX10_join 68 rfl) rfl ?_
          refine x_cSi (as := [.int 1]) (rest := []) mi_X10_truth (x_at tdX10_join 70 rfl) wm_X10_35 rfl (Nat.le_of_ble_eq_true rfl) rfl H (fun r42 S42 H => ?_)
          exact x_ireturn (ty := .int) rfl rfl (x_at tdX10_join 71 rfl) ⟨_, rfl, H⟩
    · refine x_tsw 215 (x_at tdX10_join 1 rfl) hx (by decide) (by decide) rfl rfl ?_
      have H := H.2.2.2.2.2.2.2.2.2.2.2.2.2.2.2.2.2.2.2.1 hx
      refine x_iload_n (x_at tdX10_join 63 rfl) rfl rfl ?_
      refine x_if_ne 223 (x_at tdX10_join 64 rfl) rfl (fun c => ?_) (fun c => ?_)
      · have H := H.1 c
        refine x_iconst (x_at tdX10_join 67 rfl) k_c_1 ?_
        refine x_goto 228 (x_at tdX10_join 68 rfl) rfl ?_
        refine x_cSi (as := [.int 1]) (rest := []) mi_X10_truth (x_at tdX10_join 70 rfl) wm_X10_35 rfl (Nat.le_of_ble_eq_true rfl) rfl H (fun r43 S43 H => ?_)
        exact x_ireturn (ty := .int) rfl rfl (x_at tdX10_join 71 rfl) ⟨_, rfl, H⟩
      · have H := H.2 c
        refine x_iload_n (x_at tdX10_join 65 rfl) rfl rfl ?_
        refine x_if_eq 227 (x_at tdX10_join 66 rfl) rfl (fun c => ?_) (fun c => ?_)
        · have H := H.1 c
          refine x_iconst (x_at tdX10_join 69 rfl) k_c_0 ?_
          refine x_cSi (as := [.int 0]) (rest := []) mi_X10_truth (x_at tdX10_join 70 rfl) wm_X10_35 rfl (Nat.le_of_ble_eq_true rfl) rfl H (fun r44 S44 H => ?_)
          exact x_ireturn (ty := .int) rfl rfl (x_at tdX10_join 71 rfl) ⟨_, rfl, H⟩
        · have H := H.2 c
          refine x_iconst (x_at tdX10_join 67 rfl) k_c_1 ?_
          refine x_goto 228 (x_at tdX10_join 68 rfl) rfl ?_
          refine x_cSi (as := [.int 1]) (rest := []) mi_X10_truth (x_at tdX10_join 70 rfl) wm_X10_35 rfl (Nat.le_of_ble_eq_true rfl) rfl H (fun r45 S45 H => ?_)
          exact x_ireturn (ty := .int) rfl rfl (x_at tdX10_join 71 rfl) ⟨_, rfl, H⟩
    · refine x_tsw 215 (x_at tdX10_join 1 rfl) hx (by decide) (by decide) rfl rfl ?_
      have H := H.2.2.2.2.2.2.2.2.2.2.2.2.2.2.2.2.2.2.2.2.1 hx
      refine x_iload_n (x_at tdX10_join 63 rfl) rfl rfl ?_
      refine x_if_ne 223 (x_at tdX10_join 64 rfl) rfl (fun c => ?_) (fun c => ?_)
      · have H := H.1 c
        refine x_iconst (x_at tdX10_join 67 rfl) k_c_1 ?_
        refine x_goto 228 (x_at tdX10_join 68 rfl) rfl ?_
        refine x_cSi (as := [.int 1]) (rest := []) mi_X10_truth (x_at tdX10_join 70 rfl) wm_X10_35 rfl (Nat.le_of_ble_eq_true rfl) rfl H (fun r46 S46 H => ?_)
        exact x_ireturn (ty := .int) rfl rfl (x_at tdX10_join 71 rfl) ⟨_, rfl, H⟩
      · have H := H.2 c
        refine x_iload_n (x_at tdX10_join 65 rfl) rfl rfl ?_
        refine x_if_eq 227 (x_at tdX10_join 66 rfl) rfl (fun c => ?_) (fun c => ?_)
        · have H := H.1 c
          refine x_iconst (x_at tdX10_join 69 rfl) k_c_0 ?_
          refine x_cSi (as := [.int 0]) (rest := []) mi_X10_truth (x_at tdX10_join 70 rfl) wm_X10_35 rfl (Nat.le_of_ble_eq_true rfl) rfl H (fun r47 S47 H => ?_)
          exact x_ireturn (ty := .int) rfl rfl (x_at tdX10_join 71 rfl) ⟨_, rfl, H⟩
        · have H := H.2 c
          refine x_iconst (x_at tdX10_join 67 rfl) k_c_1 ?_
          refine x_goto 228 (x_at tdX10_join 68 rfl) rfl ?_
          refine x_cSi (as := [.int 1]) (rest := []) mi_X10_truth (x_at tdX10_join 70 rfl) wm_X10_35 rfl (Nat.le_of_ble_eq_true rfl) rfl H (fun r48 S48 H => ?_)
          exact x_ireturn (ty := .int) rfl rfl (x_at tdX10_join 71 rfl) ⟨_, rfl, H⟩
    · refine x_tsw 215 (x_at tdX10_join 1 rfl) hx (by decide) (by decide) rfl rfl ?_
      have H := H.2.2.2.2.2.2.2.2.2.2.2.2.2.2.2.2.2.2.2.2.2.1 hx
      refine x_iload_n (x_at tdX10_join 63 rfl) rfl rfl ?_
      refine x_if_ne 223 (x_at tdX10_join 64 rfl) rfl (fun c => ?_) (fun c => ?_)
      · have H := H.1 c
        refine x_iconst (x_at tdX10_join 67 rfl) k_c_1 ?_
        refine x_goto 228 (x_at tdX10_join 68 rfl) rfl ?_
        refine x_cSi (as := [.int 1]) (rest := []) mi_X10_truth (x_at tdX10_join 70 rfl) wm_X10_35 rfl (Nat.le_of_ble_eq_true rfl) rfl H (fun r49 S49 H => ?_)
        exact x_ireturn (ty := .int) rfl rfl (x_at tdX10_join 71 rfl) ⟨_, rfl, H⟩
      · have H := H.2 c
        refine x_iload_n (x_at tdX10_join 65 rfl) rfl rfl ?_
        refine x_if_eq 227 (x_at tdX10_join 66 rfl) rfl (fun c => ?_) (fun c => ?_)
        · have H := H.1 c
          refine x_iconst (x_at tdX10_join 69 rfl) k_c_0 ?_
          refine x_cSi (as := [.int 0]) (rest := []) mi_X10_truth (x_at tdX10_join 70 rfl) wm_X10_35 rfl (Nat.le_of_ble_eq_true rfl) rfl H (fun r50 S50 H => ?_)
          exact x_ireturn (ty := .int) rfl rfl (x_at tdX10_join 71 rfl) ⟨_, rfl, H⟩
        · have H := H.2 c
          refine x_iconst (x_at tdX10_join 67 rfl) k_c_1 ?_
          refine x_goto 228 (x_at tdX10_join 68 rfl) rfl ?_
          refine x_cSi (as := [.int 1]) (rest := []) mi_X10_truth (x_at tdX10_join 70 rfl) wm_X10_35 rfl (Nat.le_of_ble_eq_true rfl) rfl H (fun r51 S51 H => ?_)
          exact x_ireturn (ty := .int) rfl rfl (x_at tdX10_join 71 rfl) ⟨_, rfl, H⟩
    · refine x_tsw 215 (x_at tdX10_join 1 rfl) hx (by decide) (by decide) rfl rfl ?_
      have H := H.2.2.2.2.2.2.2.2.2.2.2.2.2.2.2.2.2.2.2.2.2.2.1 hx
      refine x_iload_n (x_at tdX10_join 63 rfl) rfl rfl ?_
      refine x_if_ne 223 (x_at tdX10_join 64 rfl) rfl (fun c => ?_) (fun c => ?_)
      · have H := H.1 c
        refine x_iconst (x_at tdX10_join 67 rfl) k_c_1 ?_
        refine x_goto 228 (x_at tdX10_join 68 rfl) rfl ?_
        refine x_cSi (as := [.int 1]) (rest := []) mi_X10_truth (x_at tdX10_join 70 rfl) wm_X10_35 rfl (Nat.le_of_ble_eq_true rfl) rfl H (fun r52 S52 H => ?_)
        exact x_ireturn (ty := .int) rfl rfl (x_at tdX10_join 71 rfl) ⟨_, rfl, H⟩
      · have H := H.2 c
        refine x_iload_n (x_at tdX10_join 65 rfl) rfl rfl ?_
        refine x_if_eq 227 (x_at tdX10_join 66 rfl) rfl (fun c => ?_) (fun c => ?_)
        · have H := H.1 c
          refine x_iconst (x_at tdX10_join 69 rfl) k_c_0 ?_
          refine x_cSi (as := [.int 0]) (rest := []) mi_X10_truth (x_at tdX10_join 70 rfl) wm_X10_35 rfl (Nat.le_of_ble_eq_true rfl) rfl H (fun r53 S53 H => ?_)
          exact x_ireturn (ty := .int) rfl rfl (x_at tdX10_join 71 rfl) ⟨_, rfl, H⟩
        · have H := H.2 c
          refine x_iconst (x_at tdX10_join 67 rfl) k_c_1 ?_
          refine x_goto 228 (x_at tdX10_join 68 rfl) rfl ?_
          refine x_cSi (as := [.int 1]) (rest := []) mi_X10_truth (x_at tdX10_join 70 rfl) wm_X10_35 rfl (Nat.le_of_ble_eq_true rfl) rfl H (fun r54 S54 H => ?_)
          exact x_ireturn (ty := .int) rfl rfl (x_at tdX10_join 71 rfl) ⟨_, rfl, H⟩
    · refine x_tsw 215 (x_at tdX10_join 1 rfl) hx (by decide) (by decide) rfl rfl ?_
      have H := H.2.2.2.2.2.2.2.2.2.2.2.2.2.2.2.2.2.2.2.2.2.2.2.1 hx
      refine x_iload_n (x_at tdX10_join 63 rfl) rfl rfl ?_
      refine x_if_ne 223 (x_at tdX10_join 64 rfl) rfl (fun c => ?_) (fun c => ?_)
      · have H := H.1 c
        refine x_iconst (x_at tdX10_join 67 rfl) k_c_1 ?_
        refine x_goto 228 (x_at tdX10_join 68 rfl) rfl ?_
        refine x_cSi (as := [.int 1]) (rest := []) mi_X10_truth (x_at tdX10_join 70 rfl) wm_X10_35 rfl (Nat.le_of_ble_eq_true rfl) rfl H (fun r55 S55 H => ?_)
        exact x_ireturn (ty := .int) rfl rfl (x_at tdX10_join 71 rfl) ⟨_, rfl, H⟩
      · have H := H.2 c
        refine x_iload_n (x_at tdX10_join 65 rfl) rfl rfl ?_
        refine x_if_eq 227 (x_at tdX10_join 66 rfl) rfl (fun c => ?_) (fun c => ?_)
        · have H := H.1 c
          refine x_iconst (x_at tdX10_join 69 rfl) k_c_0 ?_
          refine x_cSi (as := [.int 0]) (rest := []) mi_X10_truth (x_at tdX10_join 70 rfl) wm_X10_35 rfl (Nat.le_of_ble_eq_true rfl) rfl H (fun r56 S56 H => ?_)
          exact x_ireturn (ty := .int) rfl rfl (x_at tdX10_join 71 rfl) ⟨_, rfl, H⟩
        · have H := H.2 c
          refine x_iconst (x_at tdX10_join 67 rfl) k_c_1 ?_
          refine x_goto 228 (x_at tdX10_join 68 rfl) rfl ?_
          refine x_cSi (as := [.int 1]) (rest := []) mi_X10_truth (x_at tdX10_join 70 rfl) wm_X10_35 rfl (Nat.le_of_ble_eq_true rfl) rfl H (fun r57 S57 H => ?_)
          exact x_ireturn (ty := .int) rfl rfl (x_at tdX10_join 71 rfl) ⟨_, rfl, H⟩
    · refine x_tsw 156 (x_at tdX10_join 1 rfl) hx (by decide) (by decide) rfl rfl ?_
      have H := H.2.2.2.2.2.2.2.2.2.2.2.2.2.2.2.2.2.2.2.2.2.2.2.2.1 hx
      refine x_iload_n (x_at tdX10_join 30 rfl) rfl rfl ?_
      refine x_iload_n (x_at tdX10_join 31 rfl) rfl rfl ?_
      refine x_ic_ge 165 (x_at tdX10_join 32 rfl) rfl (fun c => ?_) (fun c => ?_)
      · have H := H.1 c
        refine x_iconst (x_at tdX10_join 35 rfl) k_c_0 ?_
        refine x_cSi (as := [.int 0]) (rest := []) mi_X10_truth (x_at tdX10_join 36 rfl) wm_X10_35 rfl (Nat.le_of_ble_eq_true rfl) rfl H (fun r58 S58 H => ?_)
        exact x_ireturn (ty := .int) rfl rfl (x_at tdX10_join 37 rfl) ⟨_, rfl, H⟩
      · have H := H.2 c
        refine x_iconst (x_at tdX10_join 33 rfl) k_c_1 ?_
        refine x_goto 166 (x_at tdX10_join 34 rfl) rfl ?_
        refine x_cSi (as := [.int 1]) (rest := []) mi_X10_truth (x_at tdX10_join 36 rfl) wm_X10_35 rfl (Nat.le_of_ble_eq_true rfl) rfl H (fun r59 S59 H => ?_)
        exact x_ireturn (ty := .int) rfl rfl (x_at tdX10_join 37 rfl) ⟨_, rfl, H⟩
    · refine x_tsw 184 (x_at tdX10_join 1 rfl) hx (by decide) (by decide) rfl rfl ?_
      have H := H.2.2.2.2.2.2.2.2.2.2.2.2.2.2.2.2.2.2.2.2.2.2.2.2.2.1 hx
      refine x_iload_n (x_at tdX10_join 46 rfl) rfl rfl ?_
      refine x_iload_n (x_at tdX10_join 47 rfl) rfl rfl ?_
      refine x_ic_ne 193 (x_at tdX10_join 48 rfl) rfl (fun c => ?_) (fun c => ?_)
      · have H := H.1 c
        refine x_iconst (x_at tdX10_join 51 rfl) k_c_0 ?_
        refine x_cSi (as := [.int 0]) (rest := []) mi_X10_truth (x_at tdX10_join 52 rfl) wm_X10_35 rfl (Nat.le_of_ble_eq_true rfl) rfl H (fun r60 S60 H => ?_)
        exact x_ireturn (ty := .int) rfl rfl (x_at tdX10_join 53 rfl) ⟨_, rfl, H⟩
      · have H := H.2 c
        refine x_iconst (x_at tdX10_join 49 rfl) k_c_1 ?_
        refine x_goto 194 (x_at tdX10_join 50 rfl) rfl ?_
        refine x_cSi (as := [.int 1]) (rest := []) mi_X10_truth (x_at tdX10_join 52 rfl) wm_X10_35 rfl (Nat.le_of_ble_eq_true rfl) rfl H (fun r61 S61 H => ?_)
        exact x_ireturn (ty := .int) rfl rfl (x_at tdX10_join 53 rfl) ⟨_, rfl, H⟩
    · refine x_tsw 170 (x_at tdX10_join 1 rfl) hx (by decide) (by decide) rfl rfl ?_
      have H := H.2.2.2.2.2.2.2.2.2.2.2.2.2.2.2.2.2.2.2.2.2.2.2.2.2.2 hx
      refine x_iload_n (x_at tdX10_join 38 rfl) rfl rfl ?_
      refine x_iload_n (x_at tdX10_join 39 rfl) rfl rfl ?_
      refine x_ic_le 179 (x_at tdX10_join 40 rfl) rfl (fun c => ?_) (fun c => ?_)
      · have H := H.1 c
        refine x_iconst (x_at tdX10_join 43 rfl) k_c_0 ?_
        refine x_cSi (as := [.int 0]) (rest := []) mi_X10_truth (x_at tdX10_join 44 rfl) wm_X10_35 rfl (Nat.le_of_ble_eq_true rfl) rfl H (fun r62 S62 H => ?_)
        exact x_ireturn (ty := .int) rfl rfl (x_at tdX10_join 45 rfl) ⟨_, rfl, H⟩
      · have H := H.2 c
        refine x_iconst (x_at tdX10_join 41 rfl) k_c_1 ?_
        refine x_goto 180 (x_at tdX10_join 42 rfl) rfl ?_
        refine x_cSi (as := [.int 1]) (rest := []) mi_X10_truth (x_at tdX10_join 44 rfl) wm_X10_35 rfl (Nat.le_of_ble_eq_true rfl) rfl H (fun r63 S63 H => ?_)
        exact x_ireturn (ty := .int) rfl rfl (x_at tdX10_join 45 rfl) ⟨_, rfl, H⟩
theorem e_Wr_push_15 {h : xH} {d : Nat} {x1 : Int32} {x2 : Int32} {S : xSt} {K : Int32 → xSt → Prop}  (H : ((x1 < 32 → (vp_in x1 32 ∧ K (x1 + (1 : Int32)) (x_putI S 17 (x1 : Int32).toNatClampNeg x2))) ∧ (¬ x1 < 32 → K x1 S))) : M_Wr_push_15 h d x1 x2 S K := by
  refine x_enter pn_X10 (Nat.le_of_ble_eq_true rfl) ?_
  show X (gC h) _ _ 0 [(0, .ref (x_ad (gC h) 15)), (1, .int x1), (2, .int x2)] [] S _
  refine x_iload_n (x_at tdX10_push 0 rfl) rfl rfl ?_
  refine x_aload_n (x_at tdX10_push 1 rfl) rfl rfl ?_
  refine gfC_15_2 (x_at tdX10_push 2 rfl) wf_X10_15 ?_
  refine x_alen (by decide) (lC_17 h) (x_at tdX10_push 3 rfl) ?_
  refine x_top (v := 32) (by decide) ?_
  refine x_ic_lt 11 (x_at tdX10_push 4 rfl) rfl (fun c => ?_) (fun c => ?_)
  · have H := H.1 c
    refine x_aload_n (x_at tdX10_push 7 rfl) rfl rfl ?_
    refine gfC_15_2 (x_at tdX10_push 8 rfl) wf_X10_15 ?_
    refine x_iload_n (x_at tdX10_push 9 rfl) rfl rfl ?_
    refine x_iload_n (x_at tdX10_push 10 rfl) rfl rfl ?_
    refine x_iast (lC_17 h) (x_at tdX10_push 11 rfl) H.1 ?_
    have H := H.2
    refine x_iload_n (x_at tdX10_push 12 rfl) rfl rfl ?_
    refine x_iconst (x_at tdX10_push 13 rfl) k_c_1 ?_
    refine x_iadd (x_at tdX10_push 14 rfl) ?_
    exact x_ireturn (ty := .int) rfl rfl (x_at tdX10_push 15 rfl) ⟨_, rfl, H⟩
  · have H := H.2 c
    refine x_iload_n (x_at tdX10_push 5 rfl) rfl rfl ?_
    exact x_ireturn (ty := .int) rfl rfl (x_at tdX10_push 6 rfl) ⟨_, rfl, H⟩
theorem e_Wr_amount_15 {h : xH} {d : Nat} {x1 : Int32} {x2 : Int32} {x3 : Int32} {x4 : Int32} {S : xSt} {K : Int32 → xSt → Prop}  (H : ((¬ (S.1 15 1) = 0 → B_Wr_amount_15_15 h d x1 x2 x3 x4 0 0 S K) ∧ ((S.1 15 1) = 0 → K 1 S))) : M_Wr_amount_15 h d x1 x2 x3 x4 S K := by
  refine x_enter pn_X10 (Nat.le_of_ble_eq_true rfl) ?_
  show X (gC h) _ _ 0 [(0, .ref (x_ad (gC h) 15)), (1, .int x1), (2, .int x2), (3, .int x3), (4, .int x4)] [] S _
  refine x_aload_n (x_at tdX10_amount 0 rfl) rfl rfl ?_
  refine gfC_15_1 (x_at tdX10_amount 1 rfl) wf_X10_18 ?_
  refine x_if_ne 9 (x_at tdX10_amount 2 rfl) rfl (fun c => ?_) (fun c => ?_)
  · have H := H.1 c
    refine x_iconst (x_at tdX10_amount 5 rfl) k_c_0 ?_
    refine x_istore (x_at tdX10_amount 6 rfl) (by decide) ?_
    refine x_iconst (x_at tdX10_amount 7 rfl) k_c_0 ?_
    refine x_istore (x_at tdX10_amount 8 rfl) (by decide) ?_
    refine x_weak (lv' := [(0, .ref (x_ad (gC h) 15)), (1, .int x1), (2, .int x2), (3, .int x3), (4, .int x4), (5, .int 0), (6, .int 0)]) ⟨rfl, rfl, rfl, rfl, rfl, rfl, rfl, trivial⟩ ?_
    exact H
  · have H := H.2 c
    refine x_iconst (x_at tdX10_amount 3 rfl) k_c_1 ?_
    exact x_ireturn (ty := .int) rfl rfl (x_at tdX10_amount 4 rfl) ⟨_, rfl, H⟩
theorem b_Wr_amount_15_15 {h : xH} {d : Nat}  {x1 : Int32} {x2 : Int32} {x3 : Int32} {x4 : Int32} {x5 : Int32} {x6 : Int32} {S : xSt} {K : Int32 → xSt → Prop}  (H : (((S.1 15 1) ≤ x6 → K (S.1 17 0) S) ∧ (¬ (S.1 15 1) ≤ x6 → (vp_in x6 300 ∧ (((S.1 16 (x6 : Int32).toNatClampNeg) < 1000 → ((¬ (S.1 16 (x6 : Int32).toNatClampNeg) = 116 → ((¬ (S.1 16 (x6 : Int32).toNatClampNeg) = 104 → ((¬ (S.1 16 (x6 : Int32).toNatClampNeg) = 115 → ((¬ (S.1 16 (x6 : Int32).toNatClampNeg) = 100 → ((¬ (S.1 16 (x6 : Int32).toNatClampNeg) = 33 → B_Wr_amount_15_180 h d x1 x2 x3 x4 x5 x6 (S.1 16 (x6 : Int32).toNatClampNeg) S K) ∧ ((S.1 16 (x6 : Int32).toNatClampNeg) = 33 → ((x5 < 1 → B_Wr_amount_15_180 h d x1 x2 x3 x4 x5 x6 (S.1 16 (x6 : Int32).toNatClampNeg) S K) ∧ (¬ x5 < 1 → (vp_in (x5 - (1 : Int32)) 32 ∧ ((¬ (S.1 17 ((x5 - (1 : Int32)) : Int32).toNatClampNeg) = 0 → B_Wr_amount_15_173 h d x1 x2 x3 x4 x5 x6 0 (x5 - (1 : Int32)) S K) ∧ ((S.1 17 ((x5 - (1 : Int32)) : Int32).toNatClampNeg) = 0 → B_Wr_amount_15_173 h d x1 x2 x3 x4 x5 x6 1 (x5 - (1 : Int32)) S K)))))))) ∧ ((S.1 16 (x6 : Int32).toNatClampNeg) = 100 → M_Wr_push_15 h (d + 1) x5 x4 S (fun (r1 : Int32) (S1 : xSt) => B_Wr_amount_15_219 h d x1 x2 x3 x4 r1 x6 S1 K)))) ∧ ((S.1 16 (x6 : Int32).toNatClampNeg) = 115 → M_Wr_push_15 h (d + 1) x5 x3 S (fun (r2 : Int32) (S2 : xSt) => B_Wr_amount_15_219 h d x1 x2 x3 x4 r2 x6 S2 K)))) ∧ ((S.1 16 (x6 : Int32).toNatClampNeg) = 104 → M_Wr_push_15 h (d + 1) x5 x2 S (fun (r3 : Int32) (S3 : xSt) => B_Wr_amount_15_219 h d x1 x2 x3 x4 r3 x6 S3 K)))) ∧ ((S.1 16 (x6 : Int32).toNatClampNeg) = 116 → M_Wr_push_15 h (d + 1) x5 x1 S (fun (r4 : Int32) (S4 : xSt) => B_Wr_amount_15_219 h d x1 x2 x3 x4 r4 x6 S4 K)))) ∧ (¬ (S.1 16 (x6 : Int32).toNatClampNeg) < 1000 → M_Wr_push_15 h (d + 1) x5 ((S.1 16 (x6 : Int32).toNatClampNeg) - (1000 : Int32)) S (fun (r5 : Int32) (S5 : xSt) => B_Wr_amount_15_219 h d x1 x2 x3 x4 r5 x6 S5 K))))))) : B_Wr_amount_15_15 h d x1 x2 x3 x4 x5 x6 S K := by
  unfold B_Wr_amount_15_15
  refine x_iload (x_at tdX10_amount 9 rfl) rfl ?_
  refine x_aload_n (x_at tdX10_amount 10 rfl) rfl rfl ?_
  refine gfC_15_1 (x_at tdX10_amount 11 rfl) wf_X10_18 ?_
  refine x_ic_ge 225 (x_at tdX10_amount 12 rfl) rfl (fun c => ?_) (fun c => ?_)
  · have H := H.1 c
    refine x_aload_n (x_at tdX10_amount 113 rfl) rfl rfl ?_
    refine gfC_15_2 (x_at tdX10_amount 114 rfl) wf_X10_15 ?_
    refine x_iconst (x_at tdX10_amount 115 rfl) k_c_0 ?_
    refine x_iald (lC_17 h) (x_at tdX10_amount 116 rfl) vi_0_32 ?_
    refine x_top (v := (S.1 17 0)) rfl ?_
    exact x_ireturn (ty := .int) rfl rfl (x_at tdX10_amount 117 rfl) ⟨_, rfl, H⟩
  · have H := H.2 c
    refine x_aload_n (x_at tdX10_amount 13 rfl) rfl rfl ?_
    refine gfC_15_0 (x_at tdX10_amount 14 rfl) wf_X10_9 ?_
    refine x_iload (x_at tdX10_amount 15 rfl) rfl ?_
    refine x_iald (lC_16 h) (x_at tdX10_amount 16 rfl) H.1 ?_
    have H := H.2
    refine x_istore (x_at tdX10_amount 17 rfl) (by decide) ?_
    refine x_iload (x_at tdX10_amount 18 rfl) rfl ?_
    refine x_sipush (x_at tdX10_amount 19 rfl) k_s_1000 ?_
    refine x_ic_lt 58 (x_at tdX10_amount 20 rfl) rfl (fun c => ?_) (fun c => ?_)
    · have H := H.1 c
      refine x_iload (x_at tdX10_amount 29 rfl) rfl ?_
      refine x_bipush (x_at tdX10_amount 30 rfl) k_b_116 ?_
      refine x_ic_ne 77 (x_at tdX10_amount 31 rfl) rfl (fun c => ?_) (fun c => ?_)
      · have H := H.1 c
        refine x_iload (x_at tdX10_amount 38 rfl) rfl ?_
        refine x_bipush (x_at tdX10_amount 39 rfl) k_b_104 ?_
        refine x_ic_ne 96 (x_at tdX10_amount 40 rfl) rfl (fun c => ?_) (fun c => ?_)
        · have H := H.1 c
          refine x_iload (x_at tdX10_amount 47 rfl) rfl ?_
          refine x_bipush (x_at tdX10_amount 48 rfl) k_b_115 ?_
          refine x_ic_ne 115 (x_at tdX10_amount 49 rfl) rfl (fun c => ?_) (fun c => ?_)
          · have H := H.1 c
            refine x_iload (x_at tdX10_amount 56 rfl) rfl ?_
            refine x_bipush (x_at tdX10_amount 57 rfl) k_b_100 ?_
            refine x_ic_ne 135 (x_at tdX10_amount 58 rfl) rfl (fun c => ?_) (fun c => ?_)
            · have H := H.1 c
              refine x_iload (x_at tdX10_amount 65 rfl) rfl ?_
              refine x_bipush (x_at tdX10_amount 66 rfl) k_b_33 ?_
              refine x_ic_ne 180 (x_at tdX10_amount 67 rfl) rfl (fun c => ?_) (fun c => ?_)
              · have H := H.1 c
                refine x_weak (lv' := [(0, .ref (x_ad (gC h) 15)), (1, .int x1), (2, .int x2), (3, .int x3), (4, .int x4), (5, .int x5), (6, .int x6), (7, .int (S.1 16 (x6 : Int32).toNatClampNeg))]) ⟨rfl, rfl, rfl, rfl, rfl, rfl, rfl, rfl, trivial⟩ ?_
                exact H
              · have H := H.2 c
                refine x_iload (x_at tdX10_amount 68 rfl) rfl ?_
                refine x_iconst (x_at tdX10_amount 69 rfl) k_c_1 ?_
                refine x_ic_lt 180 (x_at tdX10_amount 70 rfl) rfl (fun c => ?_) (fun c => ?_)
                · have H := H.1 c
                  refine x_weak (lv' := [(0, .ref (x_ad (gC h) 15)), (1, .int x1), (2, .int x2), (3, .int x3), (4, .int x4), (5, .int x5), (6, .int x6), (7, .int (S.1 16 (x6 : Int32).toNatClampNeg))]) ⟨rfl, rfl, rfl, rfl, rfl, rfl, rfl, rfl, trivial⟩ ?_
                  exact H
                · have H := H.2 c
                  refine x_aload_n (x_at tdX10_amount 71 rfl) rfl rfl ?_
                  refine gfC_15_2 (x_at tdX10_amount 72 rfl) wf_X10_15 ?_
                  refine x_iload (x_at tdX10_amount 73 rfl) rfl ?_
                  refine x_iconst (x_at tdX10_amount 74 rfl) k_c_1 ?_
                  refine x_isub (x_at tdX10_amount 75 rfl) ?_
                  refine x_aload_n (x_at tdX10_amount 76 rfl) rfl rfl ?_
                  refine gfC_15_2 (x_at tdX10_amount 77 rfl) wf_X10_15 ?_
                  refine x_iload (x_at tdX10_amount 78 rfl) rfl ?_
                  refine x_iconst (x_at tdX10_amount 79 rfl) k_c_1 ?_
                  refine x_isub (x_at tdX10_amount 80 rfl) ?_
                  refine x_iald (lC_17 h) (x_at tdX10_amount 81 rfl) H.1 ?_
                  have H := H.2
                  refine x_if_ne 172 (x_at tdX10_amount 82 rfl) rfl (fun c => ?_) (fun c => ?_)
                  · have H := H.1 c
                    refine x_iconst (x_at tdX10_amount 85 rfl) k_c_0 ?_
                    refine x_weak (lv' := [(0, .ref (x_ad (gC h) 15)), (1, .int x1), (2, .int x2), (3, .int x3), (4, .int x4), (5, .int x5), (6, .int x6)]) ⟨rfl, rfl, rfl, rfl, rfl, rfl, rfl, trivial⟩ ?_
                    exact H
                  · have H := H.2 c
                    refine x_iconst (x_at tdX10_amount 83 rfl) k_c_1 ?_
                    refine x_goto 173 (x_at tdX10_amount 84 rfl) rfl ?_
                    refine x_weak (lv' := [(0, .ref (x_ad (gC h) 15)), (1, .int x1), (2, .int x2), (3, .int x3), (4, .int x4), (5, .int x5), (6, .int x6)]) ⟨rfl, rfl, rfl, rfl, rfl, rfl, rfl, trivial⟩ ?_
                    exact H
            · have H := H.2 c
              refine x_aload_n (x_at tdX10_amount 59 rfl) rfl rfl ?_
              refine x_iload (x_at tdX10_amount 60 rfl) rfl ?_
              refine x_iload (x_at tdX10_amount 61 rfl) rfl ?_
              refine x_cVi (as := [.int x5, .int x4]) (rest := []) mi_X10_push vc_10 (lC_15 h) (x_at tdX10_amount 62 rfl) wm_X10_31 rfl (Nat.le_of_ble_eq_true rfl) rfl H (fun r1 S1 H => ?_)
              refine x_istore (x_at tdX10_amount 63 rfl) (by decide) ?_
              refine x_goto 219 (x_at tdX10_amount 64 rfl) rfl ?_
              refine x_weak (lv' := [(0, .ref (x_ad (gC h) 15)), (1, .int x1), (2, .int x2), (3, .int x3), (4, .int x4), (5, .int r1), (6, .int x6)]) ⟨rfl, rfl, rfl, rfl, rfl, rfl, rfl, trivial⟩ ?_
              exact H
          · have H := H.2 c
            refine x_aload_n (x_at tdX10_amount 50 rfl) rfl rfl ?_
            refine x_iload (x_at tdX10_amount 51 rfl) rfl ?_
            refine x_iload_n (x_at tdX10_amount 52 rfl) rfl rfl ?_
            refine x_cVi (as := [.int x5, .int x3]) (rest := []) mi_X10_push vc_10 (lC_15 h) (x_at tdX10_amount 53 rfl) wm_X10_31 rfl (Nat.le_of_ble_eq_true rfl) rfl H (fun r2 S2 H => ?_)
            refine x_istore (x_at tdX10_amount 54 rfl) (by decide) ?_
            refine x_goto 219 (x_at tdX10_amount 55 rfl) rfl ?_
            refine x_weak (lv' := [(0, .ref (x_ad (gC h) 15)), (1, .int x1), (2, .int x2), (3, .int x3), (4, .int x4), (5, .int r2), (6, .int x6)]) ⟨rfl, rfl, rfl, rfl, rfl, rfl, rfl, trivial⟩ ?_
            exact H
        · have H := H.2 c
          refine x_aload_n (x_at tdX10_amount 41 rfl) rfl rfl ?_
          refine x_iload (x_at tdX10_amount 42 rfl) rfl ?_
          refine x_iload_n (x_at tdX10_amount 43 rfl) rfl rfl ?_
          refine x_cVi (as := [.int x5, .int x2]) (rest := []) mi_X10_push vc_10 (lC_15 h) (x_at tdX10_amount 44 rfl) wm_X10_31 rfl (Nat.le_of_ble_eq_true rfl) rfl H (fun r3 S3 H => ?_)
          refine x_istore (x_at tdX10_amount 45 rfl) (by decide) ?_
          refine x_goto 219 (x_at tdX10_amount 46 rfl) rfl ?_
          refine x_weak (lv' := [(0, .ref (x_ad (gC h) 15)), (1, .int x1), (2, .int x2), (3, .int x3), (4, .int x4), (5, .int r3), (6, .int x6)]) ⟨rfl, rfl, rfl, rfl, rfl, rfl, rfl, trivial⟩ ?_
          exact H
      · have H := H.2 c
        refine x_aload_n (x_at tdX10_amount 32 rfl) rfl rfl ?_
        refine x_iload (x_at tdX10_amount 33 rfl) rfl ?_
        refine x_iload_n (x_at tdX10_amount 34 rfl) rfl rfl ?_
        refine x_cVi (as := [.int x5, .int x1]) (rest := []) mi_X10_push vc_10 (lC_15 h) (x_at tdX10_amount 35 rfl) wm_X10_31 rfl (Nat.le_of_ble_eq_true rfl) rfl H (fun r4 S4 H => ?_)
        refine x_istore (x_at tdX10_amount 36 rfl) (by decide) ?_
        refine x_goto 219 (x_at tdX10_amount 37 rfl) rfl ?_
        refine x_weak (lv' := [(0, .ref (x_ad (gC h) 15)), (1, .int x1), (2, .int x2), (3, .int x3), (4, .int x4), (5, .int r4), (6, .int x6)]) ⟨rfl, rfl, rfl, rfl, rfl, rfl, rfl, trivial⟩ ?_
        exact H
    · have H := H.2 c
      refine x_aload_n (x_at tdX10_amount 21 rfl) rfl rfl ?_
      refine x_iload (x_at tdX10_amount 22 rfl) rfl ?_
      refine x_iload (x_at tdX10_amount 23 rfl) rfl ?_
      refine x_sipush (x_at tdX10_amount 24 rfl) k_s_1000 ?_
      refine x_isub (x_at tdX10_amount 25 rfl) ?_
      refine x_cVi (as := [.int x5, .int ((S.1 16 (x6 : Int32).toNatClampNeg) - (1000 : Int32))]) (rest := []) mi_X10_push vc_10 (lC_15 h) (x_at tdX10_amount 26 rfl) wm_X10_31 rfl (Nat.le_of_ble_eq_true rfl) rfl H (fun r5 S5 H => ?_)
      refine x_istore (x_at tdX10_amount 27 rfl) (by decide) ?_
      refine x_goto 219 (x_at tdX10_amount 28 rfl) rfl ?_
      refine x_weak (lv' := [(0, .ref (x_ad (gC h) 15)), (1, .int x1), (2, .int x2), (3, .int x3), (4, .int x4), (5, .int r5), (6, .int x6)]) ⟨rfl, rfl, rfl, rfl, rfl, rfl, rfl, trivial⟩ ?_
      exact H
theorem b_Wr_amount_15_173 {h : xH} {d : Nat}  {x1 : Int32} {x2 : Int32} {x3 : Int32} {x4 : Int32} {x5 : Int32} {x6 : Int32} {s0 : Int32} {s1 : Int32} {S : xSt} {K : Int32 → xSt → Prop}  (H : M_Wr_truth h (d + 1) s0 S (fun (r1 : Int32) (S1 : xSt) => (vp_in s1 32 ∧ B_Wr_amount_15_219 h d x1 x2 x3 x4 x5 x6 (x_putI S1 17 (s1 : Int32).toNatClampNeg r1) K))) : B_Wr_amount_15_173 h d x1 x2 x3 x4 x5 x6 s0 s1 S K := by
  unfold B_Wr_amount_15_173
  refine x_cSi (as := [.int s0]) (rest := [.int s1, .ref (x_ad (gC h) 17)]) mi_X10_truth (x_at tdX10_amount 86 rfl) wm_X10_35 rfl (Nat.le_of_ble_eq_true rfl) rfl H (fun r1 S1 H => ?_)
  refine x_iast (lC_17 h) (x_at tdX10_amount 87 rfl) H.1 ?_
  have H := H.2
  refine x_goto 219 (x_at tdX10_amount 88 rfl) rfl ?_
  refine x_weak (lv' := [(0, .ref (x_ad (gC h) 15)), (1, .int x1), (2, .int x2), (3, .int x3), (4, .int x4), (5, .int x5), (6, .int x6)]) ⟨rfl, rfl, rfl, rfl, rfl, rfl, rfl, trivial⟩ ?_
  exact H
theorem b_Wr_amount_15_180 {h : xH} {d : Nat}  {x1 : Int32} {x2 : Int32} {x3 : Int32} {x4 : Int32} {x5 : Int32} {x6 : Int32} {x7 : Int32} {S : xSt} {K : Int32 → xSt → Prop}  (H : ((x5 < 2 → B_Wr_amount_15_219 h d x1 x2 x3 x4 x5 x6 S K) ∧ (¬ x5 < 2 → (vp_in ((x5 + (-1)) - (1 : Int32)) 32 ∧ (vp_in (x5 + (-1)) 32 ∧ M_Wr_join h d x7 (S.1 17 (((x5 + (-1)) - (1 : Int32)) : Int32).toNatClampNeg) (S.1 17 ((x5 + (-1)) : Int32).toNatClampNeg) S (fun (r1 : Int32) (S1 : xSt) => (vp_in ((x5 + (-1)) - (1 : Int32)) 32 ∧ B_Wr_amount_15_219 h d x1 x2 x3 x4 (x5 + (-1)) x6 (x_putI S1 17 (((x5 + (-1)) - (1 : Int32)) : Int32).toNatClampNeg r1) K))))))) : B_Wr_amount_15_180 h d x1 x2 x3 x4 x5 x6 x7 S K := by
  unfold B_Wr_amount_15_180
  refine x_iload (x_at tdX10_amount 89 rfl) rfl ?_
  refine x_iconst (x_at tdX10_amount 90 rfl) k_c_2 ?_
  refine x_ic_lt 219 (x_at tdX10_amount 91 rfl) rfl (fun c => ?_) (fun c => ?_)
  · have H := H.1 c
    refine x_weak (lv' := [(0, .ref (x_ad (gC h) 15)), (1, .int x1), (2, .int x2), (3, .int x3), (4, .int x4), (5, .int x5), (6, .int x6)]) ⟨rfl, rfl, rfl, rfl, rfl, rfl, rfl, trivial⟩ ?_
    exact H
  · have H := H.2 c
    refine x_iinc (x_at tdX10_amount 92 rfl) rfl (k_inc_m1 _) (by decide) ?_
    refine x_aload_n (x_at tdX10_amount 93 rfl) rfl rfl ?_
    refine gfC_15_2 (x_at tdX10_amount 94 rfl) wf_X10_15 ?_
    refine x_iload (x_at tdX10_amount 95 rfl) rfl ?_
    refine x_iconst (x_at tdX10_amount 96 rfl) k_c_1 ?_
    refine x_isub (x_at tdX10_amount 97 rfl) ?_
    refine x_iload (x_at tdX10_amount 98 rfl) rfl ?_
    refine x_aload_n (x_at tdX10_amount 99 rfl) rfl rfl ?_
    refine gfC_15_2 (x_at tdX10_amount 100 rfl) wf_X10_15 ?_
    refine x_iload (x_at tdX10_amount 101 rfl) rfl ?_
    refine x_iconst (x_at tdX10_amount 102 rfl) k_c_1 ?_
    refine x_isub (x_at tdX10_amount 103 rfl) ?_
    refine x_iald (lC_17 h) (x_at tdX10_amount 104 rfl) H.1 ?_
    have H := H.2
    refine x_aload_n (x_at tdX10_amount 105 rfl) rfl rfl ?_
    refine gfC_15_2 (x_at tdX10_amount 106 rfl) wf_X10_15 ?_
    refine x_iload (x_at tdX10_amount 107 rfl) rfl ?_
    refine x_iald (lC_17 h) (x_at tdX10_amount 108 rfl) H.1 ?_
    have H := H.2
    refine x_cSi (as := [.int x7, .int (S.1 17 (((x5 + (-1)) - (1 : Int32)) : Int32).toNatClampNeg), .int (S.1 17 ((x5 + (-1)) : Int32).toNatClampNeg)]) (rest := [.int ((x5 + (-1)) - (1 : Int32)), .ref (x_ad (gC h) 17)]) mi_X10_join (x_at tdX10_amount 109 rfl) wm_X10_39 rfl (Nat.le_of_ble_eq_true rfl) rfl H (fun r1 S1 H => ?_)
    refine x_iast (lC_17 h) (x_at tdX10_amount 110 rfl) H.1 ?_
    have H := H.2
    refine x_weak (lv' := [(0, .ref (x_ad (gC h) 15)), (1, .int x1), (2, .int x2), (3, .int x3), (4, .int x4), (5, .int (x5 + (-1))), (6, .int x6)]) ⟨rfl, rfl, rfl, rfl, rfl, rfl, rfl, trivial⟩ ?_
    exact H
theorem b_Wr_amount_15_219 {h : xH} {d : Nat}  {x1 : Int32} {x2 : Int32} {x3 : Int32} {x4 : Int32} {x5 : Int32} {x6 : Int32} {S : xSt} {K : Int32 → xSt → Prop}  (H : B_Wr_amount_15_15 h d x1 x2 x3 x4 x5 (x6 + 1) S K) : B_Wr_amount_15_219 h d x1 x2 x3 x4 x5 x6 S K := by
  unfold B_Wr_amount_15_219
  refine x_iinc (x_at tdX10_amount 111 rfl) rfl (k_inc_1 _) (by decide) ?_
  refine x_goto 15 (x_at tdX10_amount 112 rfl) rfl ?_
  refine x_weak (lv' := [(0, .ref (x_ad (gC h) 15)), (1, .int x1), (2, .int x2), (3, .int x3), (4, .int x4), (5, .int x5), (6, .int (x6 + 1))]) ⟨rfl, rfl, rfl, rfl, rfl, rfl, rfl, trivial⟩ ?_
  exact H
theorem e_Co_worn {h : xH} {d : Nat} {x1 : Int32} {x2 : Int32} {x3 : Int32} {x4 : Int32} {S : xSt} {K : Int32 → xSt → Prop}  (H : (vp_in x1 10 ∧ M_Rg_hasMan_2 h (d + 2) (S.1 8 (x1 : Int32).toNatClampNeg) S (fun (r1 : Int32) (S1 : xSt) => ((r1 = 0 → B_Co_worn_37 h d x2 x3 x4 0 S1 K) ∧ (¬ r1 = 0 → (vp_in (S.1 8 (x1 : Int32).toNatClampNeg) 6 ∧ B_Co_worn_37 h d x2 x3 x4 (S1.1 4 ((S.1 8 (x1 : Int32).toNatClampNeg) : Int32).toNatClampNeg) S1 K)))))) : M_Co_worn h d x1 x2 x3 x4 S K := by
  refine x_enter pn_X0 (Nat.le_of_ble_eq_true rfl) ?_
  show X (gC h) _ _ 0 [(0, .ref (x_ad (gC h) 41)), (1, .int x1), (2, .int x2), (3, .int x3), (4, .int x4)] [] S _
  refine x_aload_n (x_at tdX0_worn 0 rfl) rfl rfl ?_
  refine gfC_41_0 (x_at tdX0_worn 1 rfl) wf_X0_15 ?_
  refine gfC_2_8 (x_at tdX0_worn 2 rfl) wf_X0_82 ?_
  refine x_iload_n (x_at tdX0_worn 3 rfl) rfl rfl ?_
  refine x_iald (lC_8 h) (x_at tdX0_worn 4 rfl) H.1 ?_
  have H := H.2
  refine x_istore (x_at tdX0_worn 5 rfl) (by decide) ?_
  refine x_aload_n (x_at tdX0_worn 6 rfl) rfl rfl ?_
  refine gfC_41_0 (x_at tdX0_worn 7 rfl) wf_X0_15 ?_
  refine x_iload (x_at tdX0_worn 8 rfl) rfl ?_
  refine x_cVi (as := [.int (S.1 8 (x1 : Int32).toNatClampNeg)]) (rest := []) mi_X5_hasMan vc_5 (lC_2 h) (x_at tdX0_worn 9 rfl) wm_X0_85 rfl (Nat.le_of_ble_eq_true rfl) rfl H (fun r1 S1 H => ?_)
  refine x_if_eq 36 (x_at tdX0_worn 10 rfl) rfl (fun c => ?_) (fun c => ?_)
  · have H := H.1 c
    refine x_iconst (x_at tdX0_worn 17 rfl) k_c_0 ?_
    refine x_weak (lv' := [(0, .ref (x_ad (gC h) 41)), (2, .int x2), (3, .int x3), (4, .int x4)]) ⟨rfl, rfl, rfl, rfl, trivial⟩ ?_
    exact H
  · have H := H.2 c
    refine x_aload_n (x_at tdX0_worn 11 rfl) rfl rfl ?_
    refine gfC_41_0 (x_at tdX0_worn 12 rfl) wf_X0_15 ?_
    refine gfC_2_2 (x_at tdX0_worn 13 rfl) wf_X0_88 ?_
    refine x_iload (x_at tdX0_worn 14 rfl) rfl ?_
    refine x_iald (lC_4 h) (x_at tdX0_worn 15 rfl) H.1 ?_
    have H := H.2
    refine x_goto 37 (x_at tdX0_worn 16 rfl) rfl ?_
    refine x_weak (lv' := [(0, .ref (x_ad (gC h) 41)), (2, .int x2), (3, .int x3), (4, .int x4)]) ⟨rfl, rfl, rfl, rfl, trivial⟩ ?_
    exact H
theorem b_Co_worn_37 {h : xH} {d : Nat}  {x2 : Int32} {x3 : Int32} {x4 : Int32} {s0 : Int32} {S : xSt} {K : Int32 → xSt → Prop}  (H : M_Wr_amount_15 h d x2 s0 x3 x4 S (fun (r1 : Int32) (S1 : xSt) => K (x2 - (if 0 < (if x2 < r1 then x2 else r1) then (if x2 < r1 then x2 else r1) else 0)) S1)) : B_Co_worn_37 h d x2 x3 x4 s0 S K := by
  unfold B_Co_worn_37
  refine x_istore (x_at tdX0_worn 18 rfl) (by decide) ?_
  refine x_aload_n (x_at tdX0_worn 19 rfl) rfl rfl ?_
  refine gfC_41_0 (x_at tdX0_worn 20 rfl) wf_X0_15 ?_
  refine gfC_2_16 (x_at tdX0_worn 21 rfl) wf_X0_91 ?_
  refine x_iload_n (x_at tdX0_worn 22 rfl) rfl rfl ?_
  refine x_iload (x_at tdX0_worn 23 rfl) rfl ?_
  refine x_iload_n (x_at tdX0_worn 24 rfl) rfl rfl ?_
  refine x_iload (x_at tdX0_worn 25 rfl) rfl ?_
  refine x_cVi (as := [.int x2, .int s0, .int x3, .int x4]) (rest := []) mi_X10_amount vc_10 (lC_15 h) (x_at tdX0_worn 26 rfl) wm_X0_95 rfl (Nat.le_of_ble_eq_true rfl) rfl H (fun r1 S1 H => ?_)
  refine x_istore (x_at tdX0_worn 27 rfl) (by decide) ?_
  refine x_iload_n (x_at tdX0_worn 28 rfl) rfl rfl ?_
  refine x_iconst (x_at tdX0_worn 29 rfl) k_c_0 ?_
  refine x_iload (x_at tdX0_worn 30 rfl) rfl ?_
  refine x_iload_n (x_at tdX0_worn 31 rfl) rfl rfl ?_
  refine x_mmin wm_X0_100 ws_min wi_J9 wc_min (x_at tdX0_worn 32 rfl) (Nat.le_of_ble_eq_true rfl) ?_
  refine x_mmax wm_X0_106 ws_max wi_J9 wc_max (x_at tdX0_worn 33 rfl) (Nat.le_of_ble_eq_true rfl) ?_
  refine x_isub (x_at tdX0_worn 34 rfl) ?_
  exact x_ireturn (ty := .int) rfl rfl (x_at tdX0_worn 35 rfl) ⟨_, rfl, H⟩
theorem e_Co_passDay {h : xH} {d : Nat}  {S : xSt} {K : Int32 → xSt → Prop}  (H : M_Co_seed h (d + 3) S (fun (r1 : Int32) (S1 : xSt) => M_Co_nextSeed h (d + 3) r1 S1 (fun (r2 : Int32) (S2 : xSt) => M_Co_stormBy h (d + 3) r2 S2 (fun (r3 : Int32) (S3 : xSt) => B_Co_passDay_19 h d r2 r3 0 0 S3 K)))) : M_Co_passDay h d S K := by
  refine x_enter pn_X0 (Nat.le_of_ble_eq_true rfl) ?_
  show X (gC h) _ _ 0 [(0, .ref (x_ad (gC h) 41))] [] S _
  refine x_aload_n (x_at tdX0_passDay 0 rfl) rfl rfl ?_
  refine x_cVi (as := []) (rest := []) mi_X0_seed vc_0 (lC_41 h) (x_at tdX0_passDay 1 rfl) wm_X0_54 rfl (Nat.le_of_ble_eq_true rfl) rfl H (fun r1 S1 H => ?_)
  refine x_cSi (as := [.int r1]) (rest := []) mi_X0_nextSeed (x_at tdX0_passDay 2 rfl) wm_X0_58 rfl (Nat.le_of_ble_eq_true rfl) rfl H (fun r2 S2 H => ?_)
  refine x_istore_n (x_at tdX0_passDay 3 rfl) rfl (by decide) ?_
  refine x_aload_n (x_at tdX0_passDay 4 rfl) rfl rfl ?_
  refine x_iload_n (x_at tdX0_passDay 5 rfl) rfl rfl ?_
  refine x_cVi (as := [.int r2]) (rest := []) mi_X0_stormBy vc_0 (lC_41 h) (x_at tdX0_passDay 6 rfl) wm_X0_62 rfl (Nat.le_of_ble_eq_true rfl) rfl H (fun r3 S3 H => ?_)
  refine x_istore_n (x_at tdX0_passDay 7 rfl) rfl (by decide) ?_
  refine x_iconst (x_at tdX0_passDay 8 rfl) k_c_0 ?_
  refine x_istore_n (x_at tdX0_passDay 9 rfl) rfl (by decide) ?_
  refine x_iconst (x_at tdX0_passDay 10 rfl) k_c_0 ?_
  refine x_istore (x_at tdX0_passDay 11 rfl) (by decide) ?_
  refine x_weak (lv' := [(0, .ref (x_ad (gC h) 41)), (1, .int r2), (2, .int r3), (3, .int 0), (4, .int 0)]) ⟨rfl, rfl, rfl, rfl, rfl, trivial⟩ ?_
  exact H
theorem b_Co_passDay_19 {h : xH} {d : Nat}  {x1 : Int32} {x2 : Int32} {x3 : Int32} {x4 : Int32} {S : xSt} {K : Int32 → xSt → Prop}  (H : (((S.1 2 6) ≤ x4 → K x3 (x_putI (x_putI S 42 21 x1) 42 20 ((S.1 42 20) + (1 : Int32)))) ∧ (¬ (S.1 2 6) ≤ x4 → M_Co_isOn h (d + 3) x4 S (fun (r1 : Int32) (S1 : xSt) => ((r1 = 0 → B_Co_passDay_106 h d x1 x2 x3 x4 S1 K) ∧ (¬ r1 = 0 → M_Co_threadOf h (d + 3) x4 S1 (fun (r2 : Int32) (S2 : xSt) => M_Co_today h (d + 3) S2 (fun (r3 : Int32) (S3 : xSt) => M_Co_worn h d x4 r2 x2 r3 S3 (fun (r4 : Int32) (S4 : xSt) => (vp_in ((10 : Int32) + x4) 23 ∧ M_Co_today h (d + 3) (x_putI S4 42 (((10 : Int32) + x4) : Int32).toNatClampNeg r4) (fun (r5 : Int32) (S5 : xSt) => M_Co_stateAfterWear h (d + 3) x4 r4 (r5 + (1 : Int32)) S5 (fun (r6 : Int32) (S6 : xSt) => (vp_in x4 23 ∧ (vp_in x4 23 ∧ ((¬ r6 = 4 → B_Co_passDay_106 h d x1 x2 x3 x4 (x_putI S6 42 (x4 : Int32).toNatClampNeg r6) K) ∧ (r6 = 4 → B_Co_passDay_106 h d x1 x2 (x3 + 1) x4 (x_putI S6 42 (x4 : Int32).toNatClampNeg r6) K)))))))))))))))) : B_Co_passDay_19 h d x1 x2 x3 x4 S K := by
  unfold B_Co_passDay_19
  refine x_iload (x_at tdX0_passDay 12 rfl) rfl ?_
  refine x_aload_n (x_at tdX0_passDay 13 rfl) rfl rfl ?_
  refine gfC_41_0 (x_at tdX0_passDay 14 rfl) wf_X0_15 ?_
  refine gfC_2_6 (x_at tdX0_passDay 15 rfl) wf_X0_41 ?_
  refine x_ic_ge 112 (x_at tdX0_passDay 16 rfl) rfl (fun c => ?_) (fun c => ?_)
  · have H := H.1 c
    refine x_aload_n (x_at tdX0_passDay 59 rfl) rfl rfl ?_
    refine gfC_41_1 (x_at tdX0_passDay 60 rfl) wf_X0_11 ?_
    refine x_bipush (x_at tdX0_passDay 61 rfl) k_b_21 ?_
    refine x_iload_n (x_at tdX0_passDay 62 rfl) rfl rfl ?_
    refine x_iast (lC_42 h) (x_at tdX0_passDay 63 rfl) vi_21_23 ?_
    refine x_aload_n (x_at tdX0_passDay 64 rfl) rfl rfl ?_
    refine gfC_41_1 (x_at tdX0_passDay 65 rfl) wf_X0_11 ?_
    refine x_bipush (x_at tdX0_passDay 66 rfl) k_b_20 ?_
    refine x_dup2 (x_at tdX0_passDay 67 rfl) rfl rfl ?_
    refine x_iald (lC_42 h) (x_at tdX0_passDay 68 rfl) vi_20_23 ?_
    refine x_top (v := (S.1 42 20)) rfl ?_
    refine x_iconst (x_at tdX0_passDay 69 rfl) k_c_1 ?_
    refine x_iadd (x_at tdX0_passDay 70 rfl) ?_
    refine x_iast (lC_42 h) (x_at tdX0_passDay 71 rfl) vi_20_23 ?_
    refine x_iload_n (x_at tdX0_passDay 72 rfl) rfl rfl ?_
    exact x_ireturn (ty := .int) rfl rfl (x_at tdX0_passDay 73 rfl) ⟨_, rfl, H⟩
  · have H := H.2 c
    refine x_aload_n (x_at tdX0_passDay 17 rfl) rfl rfl ?_
    refine x_iload (x_at tdX0_passDay 18 rfl) rfl ?_
    refine x_cVi (as := [.int x4]) (rest := []) mi_X0_isOn vc_0 (lC_41 h) (x_at tdX0_passDay 19 rfl) wm_X0_38 rfl (Nat.le_of_ble_eq_true rfl) rfl H (fun r1 S1 H => ?_)
    refine x_if_eq 106 (x_at tdX0_passDay 20 rfl) rfl (fun c => ?_) (fun c => ?_)
    · have H := H.1 c
      refine x_weak (lv' := [(0, .ref (x_ad (gC h) 41)), (1, .int x1), (2, .int x2), (3, .int x3), (4, .int x4)]) ⟨rfl, rfl, rfl, rfl, rfl, trivial⟩ ?_
      exact H
    · have H := H.2 c
      refine x_aload_n (x_at tdX0_passDay 21 rfl) rfl rfl ?_
      refine x_iload (x_at tdX0_passDay 22 rfl) rfl ?_
      refine x_aload_n (x_at tdX0_passDay 23 rfl) rfl rfl ?_
      refine x_iload (x_at tdX0_passDay 24 rfl) rfl ?_
      refine x_cVi (as := [.int x4]) (rest := [.int x4, .ref (x_ad (gC h) 41)]) mi_X0_threadOf vc_0 (lC_41 h) (x_at tdX0_passDay 25 rfl) wm_X0_65 rfl (Nat.le_of_ble_eq_true rfl) rfl H (fun r2 S2 H => ?_)
      refine x_iload_n (x_at tdX0_passDay 26 rfl) rfl rfl ?_
      refine x_aload_n (x_at tdX0_passDay 27 rfl) rfl rfl ?_
      refine x_cVi (as := []) (rest := [.int x2, .int r2, .int x4, .ref (x_ad (gC h) 41)]) mi_X0_today vc_0 (lC_41 h) (x_at tdX0_passDay 28 rfl) wm_X0_68 rfl (Nat.le_of_ble_eq_true rfl) rfl H (fun r3 S3 H => ?_)
      refine x_cVi (as := [.int x4, .int r2, .int x2, .int r3]) (rest := []) mi_X0_worn vc_0 (lC_41 h) (x_at tdX0_passDay 29 rfl) wm_X0_71 rfl (Nat.le_of_ble_eq_true rfl) rfl H (fun r4 S4 H => ?_)
      refine x_istore (x_at tdX0_passDay 30 rfl) (by decide) ?_
      refine x_aload_n (x_at tdX0_passDay 31 rfl) rfl rfl ?_
      refine gfC_41_1 (x_at tdX0_passDay 32 rfl) wf_X0_11 ?_
      refine x_bipush (x_at tdX0_passDay 33 rfl) k_b_10 ?_
      refine x_iload (x_at tdX0_passDay 34 rfl) rfl ?_
      refine x_iadd (x_at tdX0_passDay 35 rfl) ?_
      refine x_iload (x_at tdX0_passDay 36 rfl) rfl ?_
      refine x_iast (lC_42 h) (x_at tdX0_passDay 37 rfl) H.1 ?_
      have H := H.2
      refine x_aload_n (x_at tdX0_passDay 38 rfl) rfl rfl ?_
      refine gfC_41_1 (x_at tdX0_passDay 39 rfl) wf_X0_11 ?_
      refine x_iload (x_at tdX0_passDay 40 rfl) rfl ?_
      refine x_aload_n (x_at tdX0_passDay 41 rfl) rfl rfl ?_
      refine x_iload (x_at tdX0_passDay 42 rfl) rfl ?_
      refine x_iload (x_at tdX0_passDay 43 rfl) rfl ?_
      refine x_aload_n (x_at tdX0_passDay 44 rfl) rfl rfl ?_
      refine x_cVi (as := []) (rest := [.int r4, .int x4, .ref (x_ad (gC h) 41), .int x4, .ref (x_ad (gC h) 42)]) mi_X0_today vc_0 (lC_41 h) (x_at tdX0_passDay 45 rfl) wm_X0_68 rfl (Nat.le_of_ble_eq_true rfl) rfl H (fun r5 S5 H => ?_)
      refine x_iconst (x_at tdX0_passDay 46 rfl) k_c_1 ?_
      refine x_iadd (x_at tdX0_passDay 47 rfl) ?_
      refine x_cVi (as := [.int x4, .int r4, .int (r5 + (1 : Int32))]) (rest := [.int x4, .ref (x_ad (gC h) 42)]) mi_X0_stateAfterWear vc_0 (lC_41 h) (x_at tdX0_passDay 48 rfl) wm_X0_75 rfl (Nat.le_of_ble_eq_true rfl) rfl H (fun r6 S6 H => ?_)
      refine x_iast (lC_42 h) (x_at tdX0_passDay 49 rfl) H.1 ?_
      have H := H.2
      refine x_aload_n (x_at tdX0_passDay 50 rfl) rfl rfl ?_
      refine gfC_41_1 (x_at tdX0_passDay 51 rfl) wf_X0_11 ?_
      refine x_iload (x_at tdX0_passDay 52 rfl) rfl ?_
      refine x_iald (lC_42 h) (x_at tdX0_passDay 53 rfl) H.1 ?_
      have H := H.2
      refine x_top (v := r6) (by simp [x_putI, upd]) ?_
      refine x_iconst (x_at tdX0_passDay 54 rfl) k_c_4 ?_
      refine x_ic_ne 106 (x_at tdX0_passDay 55 rfl) rfl (fun c => ?_) (fun c => ?_)
      · have H := H.1 c
        refine x_weak (lv' := [(0, .ref (x_ad (gC h) 41)), (1, .int x1), (2, .int x2), (3, .int x3), (4, .int x4)]) ⟨rfl, rfl, rfl, rfl, rfl, trivial⟩ ?_
        exact H
      · have H := H.2 c
        refine x_iinc (x_at tdX0_passDay 56 rfl) rfl (k_inc_1 _) (by decide) ?_
        refine x_weak (lv' := [(0, .ref (x_ad (gC h) 41)), (1, .int x1), (2, .int x2), (3, .int (x3 + 1)), (4, .int x4)]) ⟨rfl, rfl, rfl, rfl, rfl, trivial⟩ ?_
        exact H
theorem b_Co_passDay_106 {h : xH} {d : Nat}  {x1 : Int32} {x2 : Int32} {x3 : Int32} {x4 : Int32} {S : xSt} {K : Int32 → xSt → Prop}  (H : B_Co_passDay_19 h d x1 x2 x3 (x4 + 1) S K) : B_Co_passDay_106 h d x1 x2 x3 x4 S K := by
  unfold B_Co_passDay_106
  refine x_iinc (x_at tdX0_passDay 57 rfl) rfl (k_inc_1 _) (by decide) ?_
  refine x_goto 19 (x_at tdX0_passDay 58 rfl) rfl ?_
  refine x_weak (lv' := [(0, .ref (x_ad (gC h) 41)), (1, .int x1), (2, .int x2), (3, .int x3), (4, .int (x4 + 1))]) ⟨rfl, rfl, rfl, rfl, rfl, trivial⟩ ?_
  exact H
theorem e_O_day {h : xH} {d : Nat}  {S : xSt} {K : Int32 → xSt → Prop}  (H : M_Co_today h (d + 4) S (fun (r1 : Int32) (S1 : xSt) => ((r1 < 99 → M_Co_passDay h d S1 (fun (r2 : Int32) (S2 : xSt) => M_Hi_addAct h (d + 2) S2 (fun (S3 : xSt) => K r2 S3))) ∧ (¬ r1 < 99 → K (-1) S1)))) : M_O_day h d S K := by
  refine x_enter pn_X11 (Nat.le_of_ble_eq_true rfl) ?_
  show X (gC h) _ _ 0 [(0, .ref (x_ad (gC h) 0))] [] S _
  refine x_aload_n (x_at tdX11_day 0 rfl) rfl rfl ?_
  refine gfC_0_4 (x_at tdX11_day 1 rfl) wf_X11_32 ?_
  refine x_cVi (as := []) (rest := []) mi_X0_today vc_0 (lC_41 h) (x_at tdX11_day 2 rfl) wm_X11_196 rfl (Nat.le_of_ble_eq_true rfl) rfl H (fun r1 S1 H => ?_)
  refine x_bipush (x_at tdX11_day 3 rfl) k_b_99 ?_
  refine x_ic_lt 14 (x_at tdX11_day 4 rfl) rfl (fun c => ?_) (fun c => ?_)
  · have H := H.1 c
    refine x_aload_n (x_at tdX11_day 7 rfl) rfl rfl ?_
    refine gfC_0_4 (x_at tdX11_day 8 rfl) wf_X11_32 ?_
    refine x_cVi (as := []) (rest := []) mi_X0_passDay vc_0 (lC_41 h) (x_at tdX11_day 9 rfl) wm_X11_199 rfl (Nat.le_of_ble_eq_true rfl) rfl H (fun r2 S2 H => ?_)
    refine x_istore_n (x_at tdX11_day 10 rfl) rfl (by decide) ?_
    refine x_aload_n (x_at tdX11_day 11 rfl) rfl rfl ?_
    refine gfC_0_5 (x_at tdX11_day 12 rfl) wf_X11_41 ?_
    refine x_cVv (as := []) (rest := []) mi_X2_addAct vc_2 (lC_43 h) (x_at tdX11_day 13 rfl) wm_X11_174 rfl (Nat.le_of_ble_eq_true rfl) rfl H (fun S3 H => ?_)
    refine x_iload_n (x_at tdX11_day 14 rfl) rfl rfl ?_
    exact x_ireturn (ty := .int) rfl rfl (x_at tdX11_day 15 rfl) ⟨_, rfl, H⟩
  · have H := H.2 c
    refine x_iconst (x_at tdX11_day 5 rfl) k_c_m1 ?_
    exact x_ireturn (ty := .int) rfl rfl (x_at tdX11_day 6 rfl) ⟨_, rfl, H⟩
theorem e_Hi_readRow {h : xH} {d : Nat}  {S : xSt} {K : xSt → Prop}  (H : (((¬ ((S.1 43 4) * (23 : Int32)) < 0 ∧ ¬ (0 : Int32) < 0 ∧ ¬ (23 : Int32) < 0) ∧ (((S.1 43 4) * (23 : Int32)) : Int32).toNatClampNeg + 23 ≤ 943 ∧ 0 + 23 ≤ 23) ∧ K (x_putA S 42 (va_cpy (S.1 44) (S.1 42) (((S.1 43 4) * (23 : Int32)) : Int32).toNatClampNeg 0 23)))) : M_Hi_readRow h d S K := by
  refine x_enter pn_X2 (Nat.le_of_ble_eq_true rfl) ?_
  show X (gC h) _ _ 0 [(0, .ref (x_ad (gC h) 43))] [] S _
  refine x_aload_n (x_at tdX2_readRow 0 rfl) rfl rfl ?_
  refine gfC_43_1 (x_at tdX2_readRow 1 rfl) wf_X2_11 ?_
  refine x_aload_n (x_at tdX2_readRow 2 rfl) rfl rfl ?_
  refine gfC_43_4 (x_at tdX2_readRow 3 rfl) wf_X2_24 ?_
  refine x_bipush (x_at tdX2_readRow 4 rfl) k_b_23 ?_
  refine x_imul (x_at tdX2_readRow 5 rfl) ?_
  refine x_aload_n (x_at tdX2_readRow 6 rfl) rfl rfl ?_
  refine gfC_43_0 (x_at tdX2_readRow 7 rfl) wf_X2_20 ?_
  refine gfC_41_1 (x_at tdX2_readRow 8 rfl) wf_X2_43 ?_
  refine x_iconst (x_at tdX2_readRow 9 rfl) k_c_0 ?_
  refine x_bipush (x_at tdX2_readRow 10 rfl) k_b_23 ?_
  refine x_copyI (lC_44 h) (lC_42 h) wm_X2_34 wn_arraycopy ws_arraycopy wi_J10 (x_at tdX2_readRow 11 rfl) (Nat.le_of_ble_eq_true rfl) H.1 ?_
  have H := H.2
  exact x_return rfl (x_at tdX2_readRow 12 rfl) ⟨rfl, H⟩
theorem e_Hi_stepBack {h : xH} {d : Nat}  {S : xSt} {K : Int32 → xSt → Prop}  (H : ((0 < (S.1 43 4) → M_Hi_readRow h d (x_putI S 43 4 ((S.1 43 4) - (1 : Int32))) (fun (S1 : xSt) => K 1 S1)) ∧ (¬ 0 < (S.1 43 4) → K 0 S))) : M_Hi_stepBack h d S K := by
  refine x_enter pn_X2 (Nat.le_of_ble_eq_true rfl) ?_
  show X (gC h) _ _ 0 [(0, .ref (x_ad (gC h) 43))] [] S _
  refine x_aload_n (x_at tdX2_stepBack 0 rfl) rfl rfl ?_
  refine gfC_43_4 (x_at tdX2_stepBack 1 rfl) wf_X2_24 ?_
  refine x_if_gt 9 (x_at tdX2_stepBack 2 rfl) rfl (fun c => ?_) (fun c => ?_)
  · have H := H.1 c
    refine x_aload_n (x_at tdX2_stepBack 5 rfl) rfl rfl ?_
    refine x_dup (x_at tdX2_stepBack 6 rfl) rfl ?_
    refine gfC_43_4 (x_at tdX2_stepBack 7 rfl) wf_X2_24 ?_
    refine x_iconst (x_at tdX2_stepBack 8 rfl) k_c_1 ?_
    refine x_isub (x_at tdX2_stepBack 9 rfl) ?_
    refine pfC_43_4 (x_at tdX2_stepBack 10 rfl) wf_X2_24 ?_
    refine x_aload_n (x_at tdX2_stepBack 11 rfl) rfl rfl ?_
    refine x_cVv (as := []) (rest := []) mi_X2_readRow vc_2 (lC_43 h) (x_at tdX2_stepBack 12 rfl) wm_X2_40 rfl (Nat.le_of_ble_eq_true rfl) rfl H (fun S1 H => ?_)
    refine x_iconst (x_at tdX2_stepBack 13 rfl) k_c_1 ?_
    exact x_ireturn (ty := .boolean) rfl zb1.1 (x_at tdX2_stepBack 14 rfl) ⟨_, rfl, H⟩
  · have H := H.2 c
    refine x_iconst (x_at tdX2_stepBack 3 rfl) k_c_0 ?_
    exact x_ireturn (ty := .boolean) rfl zb0.1 (x_at tdX2_stepBack 4 rfl) ⟨_, rfl, H⟩
theorem e_O_undo {h : xH} {d : Nat}  {S : xSt} {K : Int32 → xSt → Prop}  (H : M_Hi_stepBack h d S (fun (r1 : Int32) (S1 : xSt) => (zb r1 ∧ K r1 S1))) : M_O_undo h d S K := by
  refine x_enter pn_X11 (Nat.le_of_ble_eq_true rfl) ?_
  show X (gC h) _ _ 0 [(0, .ref (x_ad (gC h) 0))] [] S _
  refine x_aload_n (x_at tdX11_undo 0 rfl) rfl rfl ?_
  refine gfC_0_5 (x_at tdX11_undo 1 rfl) wf_X11_41 ?_
  refine x_cVi (as := []) (rest := []) mi_X2_stepBack vc_2 (lC_43 h) (x_at tdX11_undo 2 rfl) wm_X11_202 rfl (Nat.le_of_ble_eq_true rfl) rfl H (fun r1 S1 H => ?_)
  exact x_ireturn (ty := .boolean) rfl H.1.1 (x_at tdX11_undo 3 rfl) ⟨_, rfl, H.2⟩
theorem e_Hi_stepOn {h : xH} {d : Nat}  {S : xSt} {K : Int32 → xSt → Prop}  (H : (((S.1 43 4) < (S.1 43 5) → M_Hi_readRow h d (x_putI S 43 4 ((S.1 43 4) + (1 : Int32))) (fun (S1 : xSt) => K 1 S1)) ∧ (¬ (S.1 43 4) < (S.1 43 5) → K 0 S))) : M_Hi_stepOn h d S K := by
  refine x_enter pn_X2 (Nat.le_of_ble_eq_true rfl) ?_
  show X (gC h) _ _ 0 [(0, .ref (x_ad (gC h) 43))] [] S _
  refine x_aload_n (x_at tdX2_stepOn 0 rfl) rfl rfl ?_
  refine gfC_43_4 (x_at tdX2_stepOn 1 rfl) wf_X2_24 ?_
  refine x_aload_n (x_at tdX2_stepOn 2 rfl) rfl rfl ?_
  refine gfC_43_5 (x_at tdX2_stepOn 3 rfl) wf_X2_28 ?_
  refine x_ic_lt 13 (x_at tdX2_stepOn 4 rfl) rfl (fun c => ?_) (fun c => ?_)
  · have H := H.1 c
    refine x_aload_n (x_at tdX2_stepOn 7 rfl) rfl rfl ?_
    refine x_dup (x_at tdX2_stepOn 8 rfl) rfl ?_
    refine gfC_43_4 (x_at tdX2_stepOn 9 rfl) wf_X2_24 ?_
    refine x_iconst (x_at tdX2_stepOn 10 rfl) k_c_1 ?_
    refine x_iadd (x_at tdX2_stepOn 11 rfl) ?_
    refine pfC_43_4 (x_at tdX2_stepOn 12 rfl) wf_X2_24 ?_
    refine x_aload_n (x_at tdX2_stepOn 13 rfl) rfl rfl ?_
    refine x_cVv (as := []) (rest := []) mi_X2_readRow vc_2 (lC_43 h) (x_at tdX2_stepOn 14 rfl) wm_X2_40 rfl (Nat.le_of_ble_eq_true rfl) rfl H (fun S1 H => ?_)
    refine x_iconst (x_at tdX2_stepOn 15 rfl) k_c_1 ?_
    exact x_ireturn (ty := .boolean) rfl zb1.1 (x_at tdX2_stepOn 16 rfl) ⟨_, rfl, H⟩
  · have H := H.2 c
    refine x_iconst (x_at tdX2_stepOn 5 rfl) k_c_0 ?_
    exact x_ireturn (ty := .boolean) rfl zb0.1 (x_at tdX2_stepOn 6 rfl) ⟨_, rfl, H⟩
theorem e_O_redo {h : xH} {d : Nat}  {S : xSt} {K : Int32 → xSt → Prop}  (H : M_Hi_stepOn h d S (fun (r1 : Int32) (S1 : xSt) => (zb r1 ∧ K r1 S1))) : M_O_redo h d S K := by
  refine x_enter pn_X11 (Nat.le_of_ble_eq_true rfl) ?_
  show X (gC h) _ _ 0 [(0, .ref (x_ad (gC h) 0))] [] S _
  refine x_aload_n (x_at tdX11_redo 0 rfl) rfl rfl ?_
  refine gfC_0_5 (x_at tdX11_redo 1 rfl) wf_X11_41 ?_
  refine x_cVi (as := []) (rest := []) mi_X2_stepOn vc_2 (lC_43 h) (x_at tdX11_redo 2 rfl) wm_X11_206 rfl (Nat.le_of_ble_eq_true rfl) rfl H (fun r1 S1 H => ?_)
  exact x_ireturn (ty := .boolean) rfl H.1.1 (x_at tdX11_redo 3 rfl) ⟨_, rfl, H.2⟩
theorem e_Jint_bitCount_0f7a4 {h : xH} {d : Nat} {x0 : Int32} {S : xSt} {K : Int32 → xSt → Prop}  (H : K ((((((((x0 - (((x0 : Int32).toUInt32 >>> ((1 : Int32).toUInt32 &&& Int32.toUInt32 31)).toInt32 &&& (1431655765 : Int32))) &&& (858993459 : Int32)) + ((((x0 - (((x0 : Int32).toUInt32 >>> ((1 : Int32).toUInt32 &&& Int32.toUInt32 31)).toInt32 &&& (1431655765 : Int32))) : Int32).toUInt32 >>> ((2 : Int32).toUInt32 &&& Int32.toUInt32 31)).toInt32 &&& (858993459 : Int32))) + (((((x0 - (((x0 : Int32).toUInt32 >>> ((1 : Int32).toUInt32 &&& Int32.toUInt32 31)).toInt32 &&& (1431655765 : Int32))) &&& (858993459 : Int32)) + ((((x0 - (((x0 : Int32).toUInt32 >>> ((1 : Int32).toUInt32 &&& Int32.toUInt32 31)).toInt32 &&& (1431655765 : Int32))) : Int32).toUInt32 >>> ((2 : Int32).toUInt32 &&& Int32.toUInt32 31)).toInt32 &&& (858993459 : Int32))) : Int32).toUInt32 >>> ((4 : Int32).toUInt32 &&& Int32.toUInt32 31)).toInt32) &&& (252645135 : Int32)) + (((((((x0 - (((x0 : Int32).toUInt32 >>> ((1 : Int32).toUInt32 &&& Int32.toUInt32 31)).toInt32 &&& (1431655765 : Int32))) &&& (858993459 : Int32)) + ((((x0 - (((x0 : Int32).toUInt32 >>> ((1 : Int32).toUInt32 &&& Int32.toUInt32 31)).toInt32 &&& (1431655765 : Int32))) : Int32).toUInt32 >>> ((2 : Int32).toUInt32 &&& Int32.toUInt32 31)).toInt32 &&& (858993459 : Int32))) + (((((x0 - (((x0 : Int32).toUInt32 >>> ((1 : Int32).toUInt32 &&& Int32.toUInt32 31)).toInt32 &&& (1431655765 : Int32))) &&& (858993459 : Int32)) + ((((x0 - (((x0 : Int32).toUInt32 >>> ((1 : Int32).toUInt32 &&& Int32.toUInt32 31)).toInt32 &&& (1431655765 : Int32))) : Int32).toUInt32 >>> ((2 : Int32).toUInt32 &&& Int32.toUInt32 31)).toInt32 &&& (858993459 : Int32))) : Int32).toUInt32 >>> ((4 : Int32).toUInt32 &&& Int32.toUInt32 31)).toInt32) &&& (252645135 : Int32)) : Int32).toUInt32 >>> ((8 : Int32).toUInt32 &&& Int32.toUInt32 31)).toInt32) + ((((((((x0 - (((x0 : Int32).toUInt32 >>> ((1 : Int32).toUInt32 &&& Int32.toUInt32 31)).toInt32 &&& (1431655765 : Int32))) &&& (858993459 : Int32)) + ((((x0 - (((x0 : Int32).toUInt32 >>> ((1 : Int32).toUInt32 &&& Int32.toUInt32 31)).toInt32 &&& (1431655765 : Int32))) : Int32).toUInt32 >>> ((2 : Int32).toUInt32 &&& Int32.toUInt32 31)).toInt32 &&& (858993459 : Int32))) + (((((x0 - (((x0 : Int32).toUInt32 >>> ((1 : Int32).toUInt32 &&& Int32.toUInt32 31)).toInt32 &&& (1431655765 : Int32))) &&& (858993459 : Int32)) + ((((x0 - (((x0 : Int32).toUInt32 >>> ((1 : Int32).toUInt32 &&& Int32.toUInt32 31)).toInt32 &&& (1431655765 : Int32))) : Int32).toUInt32 >>> ((2 : Int32).toUInt32 &&& Int32.toUInt32 31)).toInt32 &&& (858993459 : Int32))) : Int32).toUInt32 >>> ((4 : Int32).toUInt32 &&& Int32.toUInt32 31)).toInt32) &&& (252645135 : Int32)) + (((((((x0 - (((x0 : Int32).toUInt32 >>> ((1 : Int32).toUInt32 &&& Int32.toUInt32 31)).toInt32 &&& (1431655765 : Int32))) &&& (858993459 : Int32)) + ((((x0 - (((x0 : Int32).toUInt32 >>> ((1 : Int32).toUInt32 &&& Int32.toUInt32 31)).toInt32 &&& (1431655765 : Int32))) : Int32).toUInt32 >>> ((2 : Int32).toUInt32 &&& Int32.toUInt32 31)).toInt32 &&& (858993459 : Int32))) + (((((x0 - (((x0 : Int32).toUInt32 >>> ((1 : Int32).toUInt32 &&& Int32.toUInt32 31)).toInt32 &&& (1431655765 : Int32))) &&& (858993459 : Int32)) + ((((x0 - (((x0 : Int32).toUInt32 >>> ((1 : Int32).toUInt32 &&& Int32.toUInt32 31)).toInt32 &&& (1431655765 : Int32))) : Int32).toUInt32 >>> ((2 : Int32).toUInt32 &&& Int32.toUInt32 31)).toInt32 &&& (858993459 : Int32))) : Int32).toUInt32 >>> ((4 : Int32).toUInt32 &&& Int32.toUInt32 31)).toInt32) &&& (252645135 : Int32)) : Int32).toUInt32 >>> ((8 : Int32).toUInt32 &&& Int32.toUInt32 31)).toInt32) : Int32).toUInt32 >>> ((16 : Int32).toUInt32 &&& Int32.toUInt32 31)).toInt32) &&& (63 : Int32)) S) : M_Jint_bitCount_0f7a4 h d x0 S K := by
  refine x_enter pn_J6 (Nat.le_of_ble_eq_true rfl) ?_
  show X (gC h) _ _ 0 [(0, .int x0)] [] S _
  refine x_iload_n (x_at tdJ6_bitCount_0f7a4 0 rfl) rfl rfl ?_
  refine x_iload_n (x_at tdJ6_bitCount_0f7a4 1 rfl) rfl rfl ?_
  refine x_iconst (x_at tdJ6_bitCount_0f7a4 2 rfl) k_c_1 ?_
  refine x_iushr (x_at tdJ6_bitCount_0f7a4 3 rfl) ?_
  refine x_ldcw (x_at tdJ6_bitCount_0f7a4 4 rfl) wk_J6_265 ?_
  refine x_iand (x_at tdJ6_bitCount_0f7a4 5 rfl) ?_
  refine x_isub (x_at tdJ6_bitCount_0f7a4 6 rfl) ?_
  refine x_istore_n (x_at tdJ6_bitCount_0f7a4 7 rfl) rfl (by decide) ?_
  refine x_iload_n (x_at tdJ6_bitCount_0f7a4 8 rfl) rfl rfl ?_
  refine x_ldcw (x_at tdJ6_bitCount_0f7a4 9 rfl) wk_J6_266 ?_
  refine x_iand (x_at tdJ6_bitCount_0f7a4 10 rfl) ?_
  refine x_iload_n (x_at tdJ6_bitCount_0f7a4 11 rfl) rfl rfl ?_
  refine x_iconst (x_at tdJ6_bitCount_0f7a4 12 rfl) k_c_2 ?_
  refine x_iushr (x_at tdJ6_bitCount_0f7a4 13 rfl) ?_
  refine x_ldcw (x_at tdJ6_bitCount_0f7a4 14 rfl) wk_J6_266 ?_
  refine x_iand (x_at tdJ6_bitCount_0f7a4 15 rfl) ?_
  refine x_iadd (x_at tdJ6_bitCount_0f7a4 16 rfl) ?_
  refine x_istore_n (x_at tdJ6_bitCount_0f7a4 17 rfl) rfl (by decide) ?_
  refine x_iload_n (x_at tdJ6_bitCount_0f7a4 18 rfl) rfl rfl ?_
  refine x_iload_n (x_at tdJ6_bitCount_0f7a4 19 rfl) rfl rfl ?_
  refine x_iconst (x_at tdJ6_bitCount_0f7a4 20 rfl) k_c_4 ?_
  refine x_iushr (x_at tdJ6_bitCount_0f7a4 21 rfl) ?_
  refine x_iadd (x_at tdJ6_bitCount_0f7a4 22 rfl) ?_
  refine x_ldcw (x_at tdJ6_bitCount_0f7a4 23 rfl) wk_J6_267 ?_
  refine x_iand (x_at tdJ6_bitCount_0f7a4 24 rfl) ?_
  refine x_istore_n (x_at tdJ6_bitCount_0f7a4 25 rfl) rfl (by decide) ?_
  refine x_iload_n (x_at tdJ6_bitCount_0f7a4 26 rfl) rfl rfl ?_
  refine x_iload_n (x_at tdJ6_bitCount_0f7a4 27 rfl) rfl rfl ?_
  refine x_bipush (x_at tdJ6_bitCount_0f7a4 28 rfl) k_b_8 ?_
  refine x_iushr (x_at tdJ6_bitCount_0f7a4 29 rfl) ?_
  refine x_iadd (x_at tdJ6_bitCount_0f7a4 30 rfl) ?_
  refine x_istore_n (x_at tdJ6_bitCount_0f7a4 31 rfl) rfl (by decide) ?_
  refine x_iload_n (x_at tdJ6_bitCount_0f7a4 32 rfl) rfl rfl ?_
  refine x_iload_n (x_at tdJ6_bitCount_0f7a4 33 rfl) rfl rfl ?_
  refine x_bipush (x_at tdJ6_bitCount_0f7a4 34 rfl) k_b_16 ?_
  refine x_iushr (x_at tdJ6_bitCount_0f7a4 35 rfl) ?_
  refine x_iadd (x_at tdJ6_bitCount_0f7a4 36 rfl) ?_
  refine x_istore_n (x_at tdJ6_bitCount_0f7a4 37 rfl) rfl (by decide) ?_
  refine x_iload_n (x_at tdJ6_bitCount_0f7a4 38 rfl) rfl rfl ?_
  refine x_bipush (x_at tdJ6_bitCount_0f7a4 39 rfl) k_b_63 ?_
  refine x_iand (x_at tdJ6_bitCount_0f7a4 40 rfl) ?_
  exact x_ireturn (ty := .int) rfl rfl (x_at tdJ6_bitCount_0f7a4 41 rfl) ⟨_, rfl, H⟩
theorem e_O_layDown {h : xH} {d : Nat} {x1 : Int32} {S : xSt} {K : xSt → Prop}  (H : ((10 ≤ (S.1 0 11) → K S) ∧ (¬ 10 ≤ (S.1 0 11) → (vp_in (S.1 0 11) 10 ∧ K (x_putI (x_putI S 63 ((S.1 0 11) : Int32).toNatClampNeg x1) 0 11 ((S.1 0 11) + (1 : Int32))))))) : M_O_layDown h d x1 S K := by
  refine x_enter pn_X11 (Nat.le_of_ble_eq_true rfl) ?_
  show X (gC h) _ _ 0 [(0, .ref (x_ad (gC h) 0)), (1, .int x1)] [] S _
  refine x_aload_n (x_at tdX11_layDown 0 rfl) rfl rfl ?_
  refine gfC_0_11 (x_at tdX11_layDown 1 rfl) wf_X11_123 ?_
  refine x_aload_n (x_at tdX11_layDown 2 rfl) rfl rfl ?_
  refine gfC_0_10 (x_at tdX11_layDown 3 rfl) wf_X11_75 ?_
  refine x_alen (by decide) (lC_63 h) (x_at tdX11_layDown 4 rfl) ?_
  refine x_top (v := 10) (by decide) ?_
  refine x_ic_ge 32 (x_at tdX11_layDown 5 rfl) rfl (fun c => ?_) (fun c => ?_)
  · have H := H.1 c
    exact x_return rfl (x_at tdX11_layDown 18 rfl) ⟨rfl, H⟩
  · have H := H.2 c
    refine x_aload_n (x_at tdX11_layDown 6 rfl) rfl rfl ?_
    refine gfC_0_10 (x_at tdX11_layDown 7 rfl) wf_X11_75 ?_
    refine x_aload_n (x_at tdX11_layDown 8 rfl) rfl rfl ?_
    refine gfC_0_11 (x_at tdX11_layDown 9 rfl) wf_X11_123 ?_
    refine x_iload_n (x_at tdX11_layDown 10 rfl) rfl rfl ?_
    refine x_iast (lC_63 h) (x_at tdX11_layDown 11 rfl) H.1 ?_
    have H := H.2
    refine x_aload_n (x_at tdX11_layDown 12 rfl) rfl rfl ?_
    refine x_dup (x_at tdX11_layDown 13 rfl) rfl ?_
    refine gfC_0_11 (x_at tdX11_layDown 14 rfl) wf_X11_123 ?_
    refine x_top (v := (S.1 0 11)) rfl ?_
    refine x_iconst (x_at tdX11_layDown 15 rfl) k_c_1 ?_
    refine x_iadd (x_at tdX11_layDown 16 rfl) ?_
    refine pfC_0_11 (x_at tdX11_layDown 17 rfl) wf_X11_123 ?_
    exact x_return rfl (x_at tdX11_layDown 18 rfl) ⟨rfl, H⟩
theorem e_O_layOut {h : xH} {d : Nat} {r1 : Nat} {x2 : Int32} {S : xSt} {K : xSt → Prop} {nr1 : Nat} (hr1 : layC[r1]? = some (.inl (0, nr1))) (H : B_O_layOut_7 h d r1 x2 0 (x_putI S 0 11 0) K) : M_O_layOut h d r1 x2 S K := by
  refine x_enter pn_X11 (Nat.le_of_ble_eq_true rfl) ?_
  show X (gC h) _ _ 0 [(0, .ref (x_ad (gC h) 0)), (1, .ref (x_ad (gC h) r1)), (2, .int x2)] [] S _
  refine x_aload_n (x_at tdX11_layOut 0 rfl) rfl rfl ?_
  refine x_iconst (x_at tdX11_layOut 1 rfl) k_c_0 ?_
  refine pfC_0_11 (x_at tdX11_layOut 2 rfl) wf_X11_123 ?_
  refine x_iconst (x_at tdX11_layOut 3 rfl) k_c_0 ?_
  refine x_istore_n (x_at tdX11_layOut 4 rfl) rfl (by decide) ?_
  refine x_weak (lv' := [(0, .ref (x_ad (gC h) 0)), (1, .ref (x_ad (gC h) r1)), (2, .int x2), (3, .int 0)]) ⟨rfl, rfl, rfl, rfl, trivial⟩ ?_
  exact H
theorem b_O_layOut_7 {h : xH} {d : Nat} {r1 : Nat} {x2 : Int32} {x3 : Int32} {S : xSt} {K : xSt → Prop} {nr1 : Nat} (hr1 : layC[r1]? = some (.inl (0, nr1))) (H : ((x2 ≤ x3 → K S) ∧ (¬ x2 ≤ x3 → (((nI nr1) ≤ x3 → K S) ∧ (¬ (nI nr1) ≤ x3 → (vp_in x3 nr1 ∧ M_O_layDown h d (S.1 r1 (x3 : Int32).toNatClampNeg) S (fun (S1 : xSt) => B_O_layOut_7 h d r1 x2 (x3 + 1) S1 K))))))) : B_O_layOut_7 h d r1 x2 x3 S K := by
  unfold B_O_layOut_7
  refine x_iload_n (x_at tdX11_layOut 5 rfl) rfl rfl ?_
  refine x_iload_n (x_at tdX11_layOut 6 rfl) rfl rfl ?_
  refine x_ic_ge 31 (x_at tdX11_layOut 7 rfl) rfl (fun c => ?_) (fun c => ?_)
  · have H := H.1 c
    exact x_return rfl (x_at tdX11_layOut 19 rfl) ⟨rfl, H⟩
  · have H := H.2 c
    refine x_iload_n (x_at tdX11_layOut 8 rfl) rfl rfl ?_
    refine x_aload_n (x_at tdX11_layOut 9 rfl) rfl rfl ?_
    refine x_alen (by decide) hr1 (x_at tdX11_layOut 10 rfl) ?_
    refine x_ic_ge 31 (x_at tdX11_layOut 11 rfl) rfl (fun c => ?_) (fun c => ?_)
    · have H := H.1 c
      exact x_return rfl (x_at tdX11_layOut 19 rfl) ⟨rfl, H⟩
    · have H := H.2 c
      refine x_aload_n (x_at tdX11_layOut 12 rfl) rfl rfl ?_
      refine x_aload_n (x_at tdX11_layOut 13 rfl) rfl rfl ?_
      refine x_iload_n (x_at tdX11_layOut 14 rfl) rfl rfl ?_
      refine x_iald hr1 (x_at tdX11_layOut 15 rfl) H.1 ?_
      have H := H.2
      refine x_cVv (as := [.int (S.1 r1 (x3 : Int32).toNatClampNeg)]) (rest := []) mi_X11_layDown vc_11 (lC_0 h) (x_at tdX11_layOut 16 rfl) wm_X11_252 rfl (Nat.le_of_ble_eq_true rfl) rfl H (fun S1 H => ?_)
      refine x_iinc (x_at tdX11_layOut 17 rfl) rfl (k_inc_1 _) (by decide) ?_
      refine x_goto 7 (x_at tdX11_layOut 18 rfl) rfl ?_
      refine x_weak (lv' := [(0, .ref (x_ad (gC h) 0)), (1, .ref (x_ad (gC h) r1)), (2, .int x2), (3, .int (x3 + 1))]) ⟨rfl, rfl, rfl, rfl, trivial⟩ ?_
      exact H
theorem e_Or_keptBy {h : xH} {d : Nat} {x1 : Int32} {x2 : Int32} {S : xSt} {K : Int32 → xSt → Prop}  (H : (((S.1 2 17) ≤ 0 → B_Or_keptBy_29 h d x1 0 (S.1 46 4) S K) ∧ (¬ (S.1 2 17) ≤ 0 → (¬ (S.1 2 17) = 0 ∧ B_Or_keptBy_29 h d x1 ((x2 - (1 : Int32)) / (S.1 2 17)) (S.1 46 4) S K)))) : M_Or_keptBy h d x1 x2 S K := by
  refine x_enter pn_X3 (Nat.le_of_ble_eq_true rfl) ?_
  show X (gC h) _ _ 0 [(0, .ref (x_ad (gC h) 46)), (1, .int x1), (2, .int x2)] [] S _
  refine x_aload_n (x_at tdX3_keptBy 0 rfl) rfl rfl ?_
  refine gfC_46_4 (x_at tdX3_keptBy 1 rfl) wf_X3_57 ?_
  refine x_aload_n (x_at tdX3_keptBy 2 rfl) rfl rfl ?_
  refine gfC_46_0 (x_at tdX3_keptBy 3 rfl) wf_X3_28 ?_
  refine gfC_2_17 (x_at tdX3_keptBy 4 rfl) wf_X3_82 ?_
  refine x_if_le 28 (x_at tdX3_keptBy 5 rfl) rfl (fun c => ?_) (fun c => ?_)
  · have H := H.1 c
    refine x_iconst (x_at tdX3_keptBy 14 rfl) k_c_0 ?_
    refine x_weak (lv' := [(0, .ref (x_ad (gC h) 46)), (1, .int x1)]) ⟨rfl, rfl, trivial⟩ ?_
    exact H
  · have H := H.2 c
    refine x_iload_n (x_at tdX3_keptBy 6 rfl) rfl rfl ?_
    refine x_iconst (x_at tdX3_keptBy 7 rfl) k_c_1 ?_
    refine x_isub (x_at tdX3_keptBy 8 rfl) ?_
    refine x_aload_n (x_at tdX3_keptBy 9 rfl) rfl rfl ?_
    refine gfC_46_0 (x_at tdX3_keptBy 10 rfl) wf_X3_28 ?_
    refine gfC_2_17 (x_at tdX3_keptBy 11 rfl) wf_X3_82 ?_
    refine x_idiv (x_at tdX3_keptBy 12 rfl) H.1 ?_
    have H := H.2
    refine x_goto 29 (x_at tdX3_keptBy 13 rfl) rfl ?_
    refine x_weak (lv' := [(0, .ref (x_ad (gC h) 46)), (1, .int x1)]) ⟨rfl, rfl, trivial⟩ ?_
    exact H
theorem b_Or_keptBy_29 {h : xH} {d : Nat}  {x1 : Int32} {s0 : Int32} {s1 : Int32} {S : xSt} {K : Int32 → xSt → Prop}  (H : B_Or_keptBy_37 h d x1 (s1 + s0) 0 0 S K) : B_Or_keptBy_29 h d x1 s0 s1 S K := by
  unfold B_Or_keptBy_29
  refine x_iadd (x_at tdX3_keptBy 15 rfl) ?_
  refine x_istore_n (x_at tdX3_keptBy 16 rfl) rfl (by decide) ?_
  refine x_iconst (x_at tdX3_keptBy 17 rfl) k_c_0 ?_
  refine x_istore (x_at tdX3_keptBy 18 rfl) (by decide) ?_
  refine x_iconst (x_at tdX3_keptBy 19 rfl) k_c_0 ?_
  refine x_istore (x_at tdX3_keptBy 20 rfl) (by decide) ?_
  refine x_weak (lv' := [(0, .ref (x_ad (gC h) 46)), (1, .int x1), (3, .int (s1 + s0)), (4, .int 0), (5, .int 0)]) ⟨rfl, rfl, rfl, rfl, rfl, trivial⟩ ?_
  exact H
theorem b_Or_keptBy_37 {h : xH} {d : Nat}  {x1 : Int32} {x3 : Int32} {x4 : Int32} {x5 : Int32} {S : xSt} {K : Int32 → xSt → Prop}  (H : (((S.1 46 3) ≤ x5 → K x4 S) ∧ (¬ (S.1 46 3) ≤ x5 → (vp_in x5 10 ∧ (vp_in (S.1 47 (x5 : Int32).toNatClampNeg) 10 ∧ ((¬ (S.1 9 ((S.1 47 (x5 : Int32).toNatClampNeg) : Int32).toNatClampNeg) = x1 → B_Or_keptBy_107 h d x1 x3 x4 x5 S K) ∧ ((S.1 9 ((S.1 47 (x5 : Int32).toNatClampNeg) : Int32).toNatClampNeg) = x1 → (vp_in (S.1 47 (x5 : Int32).toNatClampNeg) 10 ∧ (((S.1 11 ((S.1 47 (x5 : Int32).toNatClampNeg) : Int32).toNatClampNeg) < x3 → B_Or_keptBy_107 h d x1 x3 x4 x5 S K) ∧ (¬ (S.1 11 ((S.1 47 (x5 : Int32).toNatClampNeg) : Int32).toNatClampNeg) < x3 → (vp_in (S.1 47 (x5 : Int32).toNatClampNeg) 10 ∧ ((¬ (S.1 10 ((S.1 47 (x5 : Int32).toNatClampNeg) : Int32).toNatClampNeg) = 0 → B_Or_keptBy_107 h d x1 x3 (x4 ||| ((1 : Int32) <<< ((S.1 47 (x5 : Int32).toNatClampNeg) &&& 31))) x5 S K) ∧ ((S.1 10 ((S.1 47 (x5 : Int32).toNatClampNeg) : Int32).toNatClampNeg) = 0 → K (-1) S))))))))))))) : B_Or_keptBy_37 h d x1 x3 x4 x5 S K := by
  unfold B_Or_keptBy_37
  refine x_iload (x_at tdX3_keptBy 21 rfl) rfl ?_
  refine x_aload_n (x_at tdX3_keptBy 22 rfl) rfl rfl ?_
  refine gfC_46_3 (x_at tdX3_keptBy 23 rfl) wf_X3_36 ?_
  refine x_ic_ge 113 (x_at tdX3_keptBy 24 rfl) rfl (fun c => ?_) (fun c => ?_)
  · have H := H.1 c
    refine x_iload (x_at tdX3_keptBy 60 rfl) rfl ?_
    exact x_ireturn (ty := .int) rfl rfl (x_at tdX3_keptBy 61 rfl) ⟨_, rfl, H⟩
  · have H := H.2 c
    refine x_aload_n (x_at tdX3_keptBy 25 rfl) rfl rfl ?_
    refine gfC_46_2 (x_at tdX3_keptBy 26 rfl) wf_X3_9 ?_
    refine x_iload (x_at tdX3_keptBy 27 rfl) rfl ?_
    refine x_iald (lC_47 h) (x_at tdX3_keptBy 28 rfl) H.1 ?_
    have H := H.2
    refine x_istore (x_at tdX3_keptBy 29 rfl) (by decide) ?_
    refine x_aload_n (x_at tdX3_keptBy 30 rfl) rfl rfl ?_
    refine gfC_46_0 (x_at tdX3_keptBy 31 rfl) wf_X3_28 ?_
    refine gfC_2_9 (x_at tdX3_keptBy 32 rfl) wf_X3_85 ?_
    refine x_iload (x_at tdX3_keptBy 33 rfl) rfl ?_
    refine x_iald (lC_9 h) (x_at tdX3_keptBy 34 rfl) H.1 ?_
    have H := H.2
    refine x_iload_n (x_at tdX3_keptBy 35 rfl) rfl rfl ?_
    refine x_ic_ne 107 (x_at tdX3_keptBy 36 rfl) rfl (fun c => ?_) (fun c => ?_)
    · have H := H.1 c
      refine x_weak (lv' := [(0, .ref (x_ad (gC h) 46)), (1, .int x1), (3, .int x3), (4, .int x4), (5, .int x5)]) ⟨rfl, rfl, rfl, rfl, rfl, trivial⟩ ?_
      exact H
    · have H := H.2 c
      refine x_aload_n (x_at tdX3_keptBy 37 rfl) rfl rfl ?_
      refine gfC_46_0 (x_at tdX3_keptBy 38 rfl) wf_X3_28 ?_
      refine gfC_2_11 (x_at tdX3_keptBy 39 rfl) wf_X3_88 ?_
      refine x_iload (x_at tdX3_keptBy 40 rfl) rfl ?_
      refine x_iald (lC_11 h) (x_at tdX3_keptBy 41 rfl) H.1 ?_
      have H := H.2
      refine x_iload_n (x_at tdX3_keptBy 42 rfl) rfl rfl ?_
      refine x_ic_lt 107 (x_at tdX3_keptBy 43 rfl) rfl (fun c => ?_) (fun c => ?_)
      · have H := H.1 c
        refine x_weak (lv' := [(0, .ref (x_ad (gC h) 46)), (1, .int x1), (3, .int x3), (4, .int x4), (5, .int x5)]) ⟨rfl, rfl, rfl, rfl, rfl, trivial⟩ ?_
        exact H
      · have H := H.2 c
        refine x_aload_n (x_at tdX3_keptBy 44 rfl) rfl rfl ?_
        refine gfC_46_0 (x_at tdX3_keptBy 45 rfl) wf_X3_28 ?_
        refine gfC_2_10 (x_at tdX3_keptBy 46 rfl) wf_X3_91 ?_
        refine x_iload (x_at tdX3_keptBy 47 rfl) rfl ?_
        refine x_iald (lC_10 h) (x_at tdX3_keptBy 48 rfl) H.1 ?_
        have H := H.2
        refine x_if_ne 98 (x_at tdX3_keptBy 49 rfl) rfl (fun c => ?_) (fun c => ?_)
        · have H := H.1 c
          refine x_iload (x_at tdX3_keptBy 52 rfl) rfl ?_
          refine x_iconst (x_at tdX3_keptBy 53 rfl) k_c_1 ?_
          refine x_iload (x_at tdX3_keptBy 54 rfl) rfl ?_
          refine x_ishl (x_at tdX3_keptBy 55 rfl) ?_
          refine x_ior (x_at tdX3_keptBy 56 rfl) ?_
          refine x_istore (x_at tdX3_keptBy 57 rfl) (by decide) ?_
          refine x_weak (lv' := [(0, .ref (x_ad (gC h) 46)), (1, .int x1), (3, .int x3), (4, .int (x4 ||| ((1 : Int32) <<< ((S.1 47 (x5 : Int32).toNatClampNeg) &&& 31)))), (5, .int x5)]) ⟨rfl, rfl, rfl, rfl, rfl, trivial⟩ ?_
          exact H
        · have H := H.2 c
          refine x_iconst (x_at tdX3_keptBy 50 rfl) k_c_m1 ?_
          exact x_ireturn (ty := .int) rfl rfl (x_at tdX3_keptBy 51 rfl) ⟨_, rfl, H⟩
theorem b_Or_keptBy_107 {h : xH} {d : Nat}  {x1 : Int32} {x3 : Int32} {x4 : Int32} {x5 : Int32} {S : xSt} {K : Int32 → xSt → Prop}  (H : B_Or_keptBy_37 h d x1 x3 x4 (x5 + 1) S K) : B_Or_keptBy_107 h d x1 x3 x4 x5 S K := by
  unfold B_Or_keptBy_107
  refine x_iinc (x_at tdX3_keptBy 58 rfl) rfl (k_inc_1 _) (by decide) ?_
  refine x_goto 37 (x_at tdX3_keptBy 59 rfl) rfl ?_
  refine x_weak (lv' := [(0, .ref (x_ad (gC h) 46)), (1, .int x1), (3, .int x3), (4, .int x4), (5, .int (x5 + 1))]) ⟨rfl, rfl, rfl, rfl, rfl, trivial⟩ ?_
  exact H
theorem e_Or_wonBy {h : xH} {d : Nat} {x1 : Int32} {x2 : Int32} {S : xSt} {K : Int32 → xSt → Prop}  (H : (vp_in (x1 ||| ((1 : Int32) <<< (x2 &&& 31))) 64 ∧ M_Or_keptBy h d x2 (S.1 48 ((x1 ||| ((1 : Int32) <<< (x2 &&& 31))) : Int32).toNatClampNeg) S (fun (r1 : Int32) (S1 : xSt) => ((¬ r1 = (-1) → M_Jint_bitCount_0f7a4 h d r1 S1 (fun (r2 : Int32) (S2 : xSt) => (vp_in x2 6 ∧ (vp_in (x1 ||| ((1 : Int32) <<< (x2 &&& 31))) 64 ∧ K (((r2 * (1000 : Int32)) - (S2.1 6 (x2 : Int32).toNatClampNeg)) + (S2.1 49 ((x1 ||| ((1 : Int32) <<< (x2 &&& 31))) : Int32).toNatClampNeg)) S2)))) ∧ (r1 = (-1) → K (-1) S1))))) : M_Or_wonBy h d x1 x2 S K := by
  refine x_enter pn_X3 (Nat.le_of_ble_eq_true rfl) ?_
  show X (gC h) _ _ 0 [(0, .ref (x_ad (gC h) 46)), (1, .int x1), (2, .int x2)] [] S _
  refine x_iload_n (x_at tdX3_wonBy 0 rfl) rfl rfl ?_
  refine x_iconst (x_at tdX3_wonBy 1 rfl) k_c_1 ?_
  refine x_iload_n (x_at tdX3_wonBy 2 rfl) rfl rfl ?_
  refine x_ishl (x_at tdX3_wonBy 3 rfl) ?_
  refine x_ior (x_at tdX3_wonBy 4 rfl) ?_
  refine x_istore_n (x_at tdX3_wonBy 5 rfl) rfl (by decide) ?_
  refine x_aload_n (x_at tdX3_wonBy 6 rfl) rfl rfl ?_
  refine x_iload_n (x_at tdX3_wonBy 7 rfl) rfl rfl ?_
  refine x_aload_n (x_at tdX3_wonBy 8 rfl) rfl rfl ?_
  refine gfC_46_5 (x_at tdX3_wonBy 9 rfl) wf_X3_15 ?_
  refine x_iload_n (x_at tdX3_wonBy 10 rfl) rfl rfl ?_
  refine x_iald (lC_48 h) (x_at tdX3_wonBy 11 rfl) H.1 ?_
  have H := H.2
  refine x_cVi (as := [.int x2, .int (S.1 48 ((x1 ||| ((1 : Int32) <<< (x2 &&& 31))) : Int32).toNatClampNeg)]) (rest := []) mi_X3_keptBy vc_3 (lC_46 h) (x_at tdX3_wonBy 12 rfl) wm_X3_73 rfl (Nat.le_of_ble_eq_true rfl) rfl H (fun r1 S1 H => ?_)
  refine x_istore (x_at tdX3_wonBy 13 rfl) (by decide) ?_
  refine x_iload (x_at tdX3_wonBy 14 rfl) rfl ?_
  refine x_iconst (x_at tdX3_wonBy 15 rfl) k_c_m1 ?_
  refine x_ic_ne 27 (x_at tdX3_wonBy 16 rfl) rfl (fun c => ?_) (fun c => ?_)
  · have H := H.1 c
    refine x_iload (x_at tdX3_wonBy 19 rfl) rfl ?_
    refine x_cSi (as := [.int r1]) (rest := []) mi_J6_bitCount_0f7a4 (x_at tdX3_wonBy 20 rfl) wm_X3_76 rfl (Nat.le_of_ble_eq_true rfl) rfl H (fun r2 S2 H => ?_)
    refine x_sipush (x_at tdX3_wonBy 21 rfl) k_s_1000 ?_
    refine x_imul (x_at tdX3_wonBy 22 rfl) ?_
    refine x_aload_n (x_at tdX3_wonBy 23 rfl) rfl rfl ?_
    refine gfC_46_0 (x_at tdX3_wonBy 24 rfl) wf_X3_28 ?_
    refine gfC_2_5 (x_at tdX3_wonBy 25 rfl) wf_X3_54 ?_
    refine x_iload_n (x_at tdX3_wonBy 26 rfl) rfl rfl ?_
    refine x_iald (lC_6 h) (x_at tdX3_wonBy 27 rfl) H.1 ?_
    have H := H.2
    refine x_isub (x_at tdX3_wonBy 28 rfl) ?_
    refine x_aload_n (x_at tdX3_wonBy 29 rfl) rfl rfl ?_
    refine gfC_46_6 (x_at tdX3_wonBy 30 rfl) wf_X3_18 ?_
    refine x_iload_n (x_at tdX3_wonBy 31 rfl) rfl rfl ?_
    refine x_iald (lC_49 h) (x_at tdX3_wonBy 32 rfl) H.1 ?_
    have H := H.2
    refine x_iadd (x_at tdX3_wonBy 33 rfl) ?_
    exact x_ireturn (ty := .int) rfl rfl (x_at tdX3_wonBy 34 rfl) ⟨_, rfl, H⟩
  · have H := H.2 c
    refine x_iconst (x_at tdX3_wonBy 17 rfl) k_c_m1 ?_
    exact x_ireturn (ty := .int) rfl rfl (x_at tdX3_wonBy 18 rfl) ⟨_, rfl, H⟩
theorem e_Or_findBest {h : xH} {d : Nat} {x1 : Int32} {S : xSt} {K : xSt → Prop}  (H : B_Or_findBest_17 h d (((1 : Int32) <<< ((S.1 2 4) &&& 31)) - (1 : Int32)) (x_putI S 46 4 x1) K) : M_Or_findBest h d x1 S K := by
  refine x_enter pn_X3 (Nat.le_of_ble_eq_true rfl) ?_
  show X (gC h) _ _ 0 [(0, .ref (x_ad (gC h) 46)), (1, .int x1)] [] S _
  refine x_aload_n (x_at tdX3_findBest 0 rfl) rfl rfl ?_
  refine x_iload_n (x_at tdX3_findBest 1 rfl) rfl rfl ?_
  refine pfC_46_4 (x_at tdX3_findBest 2 rfl) wf_X3_57 ?_
  refine x_iconst (x_at tdX3_findBest 3 rfl) k_c_1 ?_
  refine x_aload_n (x_at tdX3_findBest 4 rfl) rfl rfl ?_
  refine gfC_46_0 (x_at tdX3_findBest 5 rfl) wf_X3_28 ?_
  refine gfC_2_4 (x_at tdX3_findBest 6 rfl) wf_X3_51 ?_
  refine x_top (v := (S.1 2 4)) rfl ?_
  refine x_ishl (x_at tdX3_findBest 7 rfl) ?_
  refine x_iconst (x_at tdX3_findBest 8 rfl) k_c_1 ?_
  refine x_isub (x_at tdX3_findBest 9 rfl) ?_
  refine x_istore_n (x_at tdX3_findBest 10 rfl) rfl (by decide) ?_
  refine x_weak (lv' := [(0, .ref (x_ad (gC h) 46)), (2, .int (((1 : Int32) <<< ((S.1 2 4) &&& 31)) - (1 : Int32)))]) ⟨rfl, rfl, trivial⟩ ?_
  exact H
theorem b_Or_findBest_17 {h : xH} {d : Nat}  {x2 : Int32} {S : xSt} {K : xSt → Prop}  (H : ((x2 < 0 → K S) ∧ (¬ x2 < 0 → B_Or_findBest_26 h d x2 0 0 S K))) : B_Or_findBest_17 h d x2 S K := by
  unfold B_Or_findBest_17
  refine x_iload_n (x_at tdX3_findBest 11 rfl) rfl rfl ?_
  refine x_if_lt 78 (x_at tdX3_findBest 12 rfl) rfl (fun c => ?_) (fun c => ?_)
  · have H := H.1 c
    exact x_return rfl (x_at tdX3_findBest 44 rfl) ⟨rfl, H⟩
  · have H := H.2 c
    refine x_iconst (x_at tdX3_findBest 13 rfl) k_c_0 ?_
    refine x_istore_n (x_at tdX3_findBest 14 rfl) rfl (by decide) ?_
    refine x_iconst (x_at tdX3_findBest 15 rfl) k_c_0 ?_
    refine x_istore (x_at tdX3_findBest 16 rfl) (by decide) ?_
    refine x_weak (lv' := [(0, .ref (x_ad (gC h) 46)), (2, .int x2), (3, .int 0), (4, .int 0)]) ⟨rfl, rfl, rfl, rfl, trivial⟩ ?_
    exact H
theorem b_Or_findBest_26 {h : xH} {d : Nat}  {x2 : Int32} {x3 : Int32} {x4 : Int32} {S : xSt} {K : xSt → Prop}  (H : (((S.1 2 4) ≤ x4 → (vp_in x2 64 ∧ B_Or_findBest_17 h d (x2 + (-1)) (x_putI S 49 (x2 : Int32).toNatClampNeg x3) K)) ∧ (¬ (S.1 2 4) ≤ x4 → ((¬ (x2 &&& ((1 : Int32) <<< (x4 &&& 31))) = 0 → B_Or_findBest_59 h d x2 x3 x4 S K) ∧ ((x2 &&& ((1 : Int32) <<< (x4 &&& 31))) = 0 → M_Or_wonBy h d x2 x4 S (fun (r1 : Int32) (S1 : xSt) => B_Or_findBest_59 h d x2 (if x3 < r1 then r1 else x3) x4 S1 K)))))) : B_Or_findBest_26 h d x2 x3 x4 S K := by
  unfold B_Or_findBest_26
  refine x_iload (x_at tdX3_findBest 17 rfl) rfl ?_
  refine x_aload_n (x_at tdX3_findBest 18 rfl) rfl rfl ?_
  refine gfC_46_0 (x_at tdX3_findBest 19 rfl) wf_X3_28 ?_
  refine gfC_2_4 (x_at tdX3_findBest 20 rfl) wf_X3_51 ?_
  refine x_ic_ge 65 (x_at tdX3_findBest 21 rfl) rfl (fun c => ?_) (fun c => ?_)
  · have H := H.1 c
    refine x_aload_n (x_at tdX3_findBest 37 rfl) rfl rfl ?_
    refine gfC_46_6 (x_at tdX3_findBest 38 rfl) wf_X3_18 ?_
    refine x_iload_n (x_at tdX3_findBest 39 rfl) rfl rfl ?_
    refine x_iload_n (x_at tdX3_findBest 40 rfl) rfl rfl ?_
    refine x_iast (lC_49 h) (x_at tdX3_findBest 41 rfl) H.1 ?_
    have H := H.2
    refine x_iinc (x_at tdX3_findBest 42 rfl) rfl (k_inc_m1 _) (by decide) ?_
    refine x_goto 17 (x_at tdX3_findBest 43 rfl) rfl ?_
    refine x_weak (lv' := [(0, .ref (x_ad (gC h) 46)), (2, .int (x2 + (-1)))]) ⟨rfl, rfl, trivial⟩ ?_
    exact H
  · have H := H.2 c
    refine x_iload_n (x_at tdX3_findBest 22 rfl) rfl rfl ?_
    refine x_iconst (x_at tdX3_findBest 23 rfl) k_c_1 ?_
    refine x_iload (x_at tdX3_findBest 24 rfl) rfl ?_
    refine x_ishl (x_at tdX3_findBest 25 rfl) ?_
    refine x_iand (x_at tdX3_findBest 26 rfl) ?_
    refine x_if_ne 59 (x_at tdX3_findBest 27 rfl) rfl (fun c => ?_) (fun c => ?_)
    · have H := H.1 c
      refine x_weak (lv' := [(0, .ref (x_ad (gC h) 46)), (2, .int x2), (3, .int x3), (4, .int x4)]) ⟨rfl, rfl, rfl, rfl, trivial⟩ ?_
      exact H
    · have H := H.2 c
      refine x_iload_n (x_at tdX3_findBest 28 rfl) rfl rfl ?_
      refine x_aload_n (x_at tdX3_findBest 29 rfl) rfl rfl ?_
      refine x_iload_n (x_at tdX3_findBest 30 rfl) rfl rfl ?_
      refine x_iload (x_at tdX3_findBest 31 rfl) rfl ?_
      refine x_cVi (as := [.int x2, .int x4]) (rest := [.int x3]) mi_X3_wonBy vc_3 (lC_46 h) (x_at tdX3_findBest 32 rfl) wm_X3_60 rfl (Nat.le_of_ble_eq_true rfl) rfl H (fun r1 S1 H => ?_)
      refine x_mmax wm_X3_64 ws_max wi_J9 wc_max (x_at tdX3_findBest 33 rfl) (Nat.le_of_ble_eq_true rfl) ?_
      refine x_istore_n (x_at tdX3_findBest 34 rfl) rfl (by decide) ?_
      refine x_weak (lv' := [(0, .ref (x_ad (gC h) 46)), (2, .int x2), (3, .int (if x3 < r1 then r1 else x3)), (4, .int x4)]) ⟨rfl, rfl, rfl, rfl, trivial⟩ ?_
      exact H
theorem b_Or_findBest_59 {h : xH} {d : Nat}  {x2 : Int32} {x3 : Int32} {x4 : Int32} {S : xSt} {K : xSt → Prop}  (H : B_Or_findBest_26 h d x2 x3 (x4 + 1) S K) : B_Or_findBest_59 h d x2 x3 x4 S K := by
  unfold B_Or_findBest_59
  refine x_iinc (x_at tdX3_findBest 35 rfl) rfl (k_inc_1 _) (by decide) ?_
  refine x_goto 26 (x_at tdX3_findBest 36 rfl) rfl ?_
  refine x_weak (lv' := [(0, .ref (x_ad (gC h) 46)), (2, .int x2), (3, .int x3), (4, .int (x4 + 1))]) ⟨rfl, rfl, rfl, rfl, trivial⟩ ?_
  exact H
theorem e_Or_firstBestDeed {h : xH} {d : Nat} {x1 : Int32} {S : xSt} {K : Int32 → xSt → Prop}  (H : B_Or_firstBestDeed_2 h d x1 0 S K) : M_Or_firstBestDeed h d x1 S K := by
  refine x_enter pn_X3 (Nat.le_of_ble_eq_true rfl) ?_
  show X (gC h) _ _ 0 [(0, .ref (x_ad (gC h) 46)), (1, .int x1)] [] S _
  refine x_iconst (x_at tdX3_firstBestDeed 0 rfl) k_c_0 ?_
  refine x_istore_n (x_at tdX3_firstBestDeed 1 rfl) rfl (by decide) ?_
  refine x_weak (lv' := [(0, .ref (x_ad (gC h) 46)), (1, .int x1), (2, .int 0)]) ⟨rfl, rfl, rfl, trivial⟩ ?_
  exact H
theorem b_Or_firstBestDeed_2 {h : xH} {d : Nat}  {x1 : Int32} {x2 : Int32} {S : xSt} {K : Int32 → xSt → Prop}  (H : (((S.1 2 4) ≤ x2 → K (-1) S) ∧ (¬ (S.1 2 4) ≤ x2 → ((¬ (x1 &&& ((1 : Int32) <<< (x2 &&& 31))) = 0 → B_Or_firstBestDeed_38 h d x1 x2 S K) ∧ ((x1 &&& ((1 : Int32) <<< (x2 &&& 31))) = 0 → M_Or_wonBy h d x1 x2 S (fun (r1 : Int32) (S1 : xSt) => (vp_in x1 64 ∧ ((¬ r1 = (S1.1 49 (x1 : Int32).toNatClampNeg) → B_Or_firstBestDeed_38 h d x1 x2 S1 K) ∧ (r1 = (S1.1 49 (x1 : Int32).toNatClampNeg) → K x2 S1))))))))) : B_Or_firstBestDeed_2 h d x1 x2 S K := by
  unfold B_Or_firstBestDeed_2
  refine x_iload_n (x_at tdX3_firstBestDeed 2 rfl) rfl rfl ?_
  refine x_aload_n (x_at tdX3_firstBestDeed 3 rfl) rfl rfl ?_
  refine gfC_46_0 (x_at tdX3_firstBestDeed 4 rfl) wf_X3_28 ?_
  refine gfC_2_4 (x_at tdX3_firstBestDeed 5 rfl) wf_X3_51 ?_
  refine x_ic_ge 44 (x_at tdX3_firstBestDeed 6 rfl) rfl (fun c => ?_) (fun c => ?_)
  · have H := H.1 c
    refine x_iconst (x_at tdX3_firstBestDeed 26 rfl) k_c_m1 ?_
    exact x_ireturn (ty := .int) rfl rfl (x_at tdX3_firstBestDeed 27 rfl) ⟨_, rfl, H⟩
  · have H := H.2 c
    refine x_iload_n (x_at tdX3_firstBestDeed 7 rfl) rfl rfl ?_
    refine x_iconst (x_at tdX3_firstBestDeed 8 rfl) k_c_1 ?_
    refine x_iload_n (x_at tdX3_firstBestDeed 9 rfl) rfl rfl ?_
    refine x_ishl (x_at tdX3_firstBestDeed 10 rfl) ?_
    refine x_iand (x_at tdX3_firstBestDeed 11 rfl) ?_
    refine x_if_ne 38 (x_at tdX3_firstBestDeed 12 rfl) rfl (fun c => ?_) (fun c => ?_)
    · have H := H.1 c
      refine x_weak (lv' := [(0, .ref (x_ad (gC h) 46)), (1, .int x1), (2, .int x2)]) ⟨rfl, rfl, rfl, trivial⟩ ?_
      exact H
    · have H := H.2 c
      refine x_aload_n (x_at tdX3_firstBestDeed 13 rfl) rfl rfl ?_
      refine x_iload_n (x_at tdX3_firstBestDeed 14 rfl) rfl rfl ?_
      refine x_iload_n (x_at tdX3_firstBestDeed 15 rfl) rfl rfl ?_
      refine x_cVi (as := [.int x1, .int x2]) (rest := []) mi_X3_wonBy vc_3 (lC_46 h) (x_at tdX3_firstBestDeed 16 rfl) wm_X3_60 rfl (Nat.le_of_ble_eq_true rfl) rfl H (fun r1 S1 H => ?_)
      refine x_aload_n (x_at tdX3_firstBestDeed 17 rfl) rfl rfl ?_
      refine gfC_46_6 (x_at tdX3_firstBestDeed 18 rfl) wf_X3_18 ?_
      refine x_iload_n (x_at tdX3_firstBestDeed 19 rfl) rfl rfl ?_
      refine x_iald (lC_49 h) (x_at tdX3_firstBestDeed 20 rfl) H.1 ?_
      have H := H.2
      refine x_ic_ne 38 (x_at tdX3_firstBestDeed 21 rfl) rfl (fun c => ?_) (fun c => ?_)
      · have H := H.1 c
        refine x_weak (lv' := [(0, .ref (x_ad (gC h) 46)), (1, .int x1), (2, .int x2)]) ⟨rfl, rfl, rfl, trivial⟩ ?_
        exact H
      · have H := H.2 c
        refine x_iload_n (x_at tdX3_firstBestDeed 22 rfl) rfl rfl ?_
        exact x_ireturn (ty := .int) rfl rfl (x_at tdX3_firstBestDeed 23 rfl) ⟨_, rfl, H⟩
theorem b_Or_firstBestDeed_38 {h : xH} {d : Nat}  {x1 : Int32} {x2 : Int32} {S : xSt} {K : Int32 → xSt → Prop}  (H : B_Or_firstBestDeed_2 h d x1 (x2 + 1) S K) : B_Or_firstBestDeed_38 h d x1 x2 S K := by
  unfold B_Or_firstBestDeed_38
  refine x_iinc (x_at tdX3_firstBestDeed 24 rfl) rfl (k_inc_1 _) (by decide) ?_
  refine x_goto 2 (x_at tdX3_firstBestDeed 25 rfl) rfl ?_
  refine x_weak (lv' := [(0, .ref (x_ad (gC h) 46)), (1, .int x1), (2, .int (x2 + 1))]) ⟨rfl, rfl, rfl, trivial⟩ ?_
  exact H
theorem e_Or_followBest {h : xH} {d : Nat}  {S : xSt} {K : xSt → Prop}  (H : B_Or_followBest_14 h d 0 0 (x_putI (x_putI S 46 9 0) 46 10 0) K) : M_Or_followBest h d S K := by
  refine x_enter pn_X3 (Nat.le_of_ble_eq_true rfl) ?_
  show X (gC h) _ _ 0 [(0, .ref (x_ad (gC h) 46))] [] S _
  refine x_aload_n (x_at tdX3_followBest 0 rfl) rfl rfl ?_
  refine x_iconst (x_at tdX3_followBest 1 rfl) k_c_0 ?_
  refine pfC_46_9 (x_at tdX3_followBest 2 rfl) wf_X3_94 ?_
  refine x_aload_n (x_at tdX3_followBest 3 rfl) rfl rfl ?_
  refine x_iconst (x_at tdX3_followBest 4 rfl) k_c_0 ?_
  refine pfC_46_10 (x_at tdX3_followBest 5 rfl) wf_X3_97 ?_
  refine x_iconst (x_at tdX3_followBest 6 rfl) k_c_0 ?_
  refine x_istore_n (x_at tdX3_followBest 7 rfl) rfl (by decide) ?_
  refine x_iconst (x_at tdX3_followBest 8 rfl) k_c_0 ?_
  refine x_istore_n (x_at tdX3_followBest 9 rfl) rfl (by decide) ?_
  refine x_weak (lv' := [(0, .ref (x_ad (gC h) 46)), (1, .int 0), (2, .int 0)]) ⟨rfl, rfl, rfl, trivial⟩ ?_
  exact H
theorem b_Or_followBest_14 {h : xH} {d : Nat}  {x1 : Int32} {x2 : Int32} {S : xSt} {K : xSt → Prop}  (H : ((6 ≤ x2 → B_Or_followBest_92 h d x1 S K) ∧ (¬ 6 ≤ x2 → (vp_in x1 64 ∧ (((S.1 49 (x1 : Int32).toNatClampNeg) ≤ 0 → B_Or_followBest_92 h d x1 S K) ∧ (¬ (S.1 49 (x1 : Int32).toNatClampNeg) ≤ 0 → M_Or_firstBestDeed h d x1 S (fun (r1 : Int32) (S1 : xSt) => ((¬ r1 = (-1) → (vp_in (x1 ||| ((1 : Int32) <<< (r1 &&& 31))) 64 ∧ M_Or_keptBy h (d + 2) r1 (S1.1 48 ((x1 ||| ((1 : Int32) <<< (r1 &&& 31))) : Int32).toNatClampNeg) S1 (fun (r2 : Int32) (S2 : xSt) => (vp_in x2 6 ∧ B_Or_followBest_14 h d (x1 ||| ((1 : Int32) <<< (r1 &&& 31))) (x2 + 1) (x_putI (x_putI (x_putI S2 46 10 ((S1.1 46 10) ||| r2)) 51 (x2 : Int32).toNatClampNeg r1) 46 9 ((S2.1 46 9) + (1 : Int32))) K)))) ∧ (r1 = (-1) → B_Or_followBest_92 h d x1 S1 K))))))))) : B_Or_followBest_14 h d x1 x2 S K := by
  unfold B_Or_followBest_14
  refine x_iload_n (x_at tdX3_followBest 10 rfl) rfl rfl ?_
  refine x_bipush (x_at tdX3_followBest 11 rfl) k_b_6 ?_
  refine x_ic_ge 92 (x_at tdX3_followBest 12 rfl) rfl (fun c => ?_) (fun c => ?_)
  · have H := H.1 c
    refine x_weak (lv' := [(0, .ref (x_ad (gC h) 46)), (1, .int x1)]) ⟨rfl, rfl, trivial⟩ ?_
    exact H
  · have H := H.2 c
    refine x_aload_n (x_at tdX3_followBest 13 rfl) rfl rfl ?_
    refine gfC_46_6 (x_at tdX3_followBest 14 rfl) wf_X3_18 ?_
    refine x_iload_n (x_at tdX3_followBest 15 rfl) rfl rfl ?_
    refine x_iald (lC_49 h) (x_at tdX3_followBest 16 rfl) H.1 ?_
    have H := H.2
    refine x_if_le 92 (x_at tdX3_followBest 17 rfl) rfl (fun c => ?_) (fun c => ?_)
    · have H := H.1 c
      refine x_weak (lv' := [(0, .ref (x_ad (gC h) 46)), (1, .int x1)]) ⟨rfl, rfl, trivial⟩ ?_
      exact H
    · have H := H.2 c
      refine x_aload_n (x_at tdX3_followBest 18 rfl) rfl rfl ?_
      refine x_iload_n (x_at tdX3_followBest 19 rfl) rfl rfl ?_
      refine x_cVi (as := [.int x1]) (rest := []) mi_X3_firstBestDeed vc_3 (lC_46 h) (x_at tdX3_followBest 20 rfl) wm_X3_100 rfl (Nat.le_of_ble_eq_true rfl) rfl H (fun r1 S1 H => ?_)
      refine x_istore_n (x_at tdX3_followBest 21 rfl) rfl (by decide) ?_
      refine x_iload_n (x_at tdX3_followBest 22 rfl) rfl rfl ?_
      refine x_iconst (x_at tdX3_followBest 23 rfl) k_c_m1 ?_
      refine x_ic_ne 43 (x_at tdX3_followBest 24 rfl) rfl (fun c => ?_) (fun c => ?_)
      · have H := H.1 c
        refine x_iload_n (x_at tdX3_followBest 26 rfl) rfl rfl ?_
        refine x_iconst (x_at tdX3_followBest 27 rfl) k_c_1 ?_
        refine x_iload_n (x_at tdX3_followBest 28 rfl) rfl rfl ?_
        refine x_ishl (x_at tdX3_followBest 29 rfl) ?_
        refine x_ior (x_at tdX3_followBest 30 rfl) ?_
        refine x_istore_n (x_at tdX3_followBest 31 rfl) rfl (by decide) ?_
        refine x_aload_n (x_at tdX3_followBest 32 rfl) rfl rfl ?_
        refine x_dup (x_at tdX3_followBest 33 rfl) rfl ?_
        refine gfC_46_10 (x_at tdX3_followBest 34 rfl) wf_X3_97 ?_
        refine x_aload_n (x_at tdX3_followBest 35 rfl) rfl rfl ?_
        refine x_iload_n (x_at tdX3_followBest 36 rfl) rfl rfl ?_
        refine x_aload_n (x_at tdX3_followBest 37 rfl) rfl rfl ?_
        refine gfC_46_5 (x_at tdX3_followBest 38 rfl) wf_X3_15 ?_
        refine x_iload_n (x_at tdX3_followBest 39 rfl) rfl rfl ?_
        refine x_iald (lC_48 h) (x_at tdX3_followBest 40 rfl) H.1 ?_
        have H := H.2
        refine x_cVi (as := [.int r1, .int (S1.1 48 ((x1 ||| ((1 : Int32) <<< (r1 &&& 31))) : Int32).toNatClampNeg)]) (rest := [.int (S1.1 46 10), .ref (x_ad (gC h) 46)]) mi_X3_keptBy vc_3 (lC_46 h) (x_at tdX3_followBest 41 rfl) wm_X3_73 rfl (Nat.le_of_ble_eq_true rfl) rfl H (fun r2 S2 H => ?_)
        refine x_ior (x_at tdX3_followBest 42 rfl) ?_
        refine pfC_46_10 (x_at tdX3_followBest 43 rfl) wf_X3_97 ?_
        refine x_aload_n (x_at tdX3_followBest 44 rfl) rfl rfl ?_
        refine gfC_46_8 (x_at tdX3_followBest 45 rfl) wf_X3_25 ?_
        refine x_iload_n (x_at tdX3_followBest 46 rfl) rfl rfl ?_
        refine x_iload_n (x_at tdX3_followBest 47 rfl) rfl rfl ?_
        refine x_iast (lC_51 h) (x_at tdX3_followBest 48 rfl) H.1 ?_
        have H := H.2
        refine x_aload_n (x_at tdX3_followBest 49 rfl) rfl rfl ?_
        refine x_dup (x_at tdX3_followBest 50 rfl) rfl ?_
        refine gfC_46_9 (x_at tdX3_followBest 51 rfl) wf_X3_94 ?_
        refine x_top (v := (S2.1 46 9)) rfl ?_
        refine x_iconst (x_at tdX3_followBest 52 rfl) k_c_1 ?_
        refine x_iadd (x_at tdX3_followBest 53 rfl) ?_
        refine pfC_46_9 (x_at tdX3_followBest 54 rfl) wf_X3_94 ?_
        refine x_iinc (x_at tdX3_followBest 55 rfl) rfl (k_inc_1 _) (by decide) ?_
        refine x_goto 14 (x_at tdX3_followBest 56 rfl) rfl ?_
        refine x_weak (lv' := [(0, .ref (x_ad (gC h) 46)), (1, .int (x1 ||| ((1 : Int32) <<< (r1 &&& 31)))), (2, .int (x2 + 1))]) ⟨rfl, rfl, rfl, trivial⟩ ?_
        exact H
      · have H := H.2 c
        refine x_goto 92 (x_at tdX3_followBest 25 rfl) rfl ?_
        refine x_weak (lv' := [(0, .ref (x_ad (gC h) 46)), (1, .int x1)]) ⟨rfl, rfl, trivial⟩ ?_
        exact H
theorem b_Or_followBest_92 {h : xH} {d : Nat}  {x1 : Int32} {S : xSt} {K : xSt → Prop}  (H : (vp_in x1 64 ∧ K (x_putI S 46 11 (S.1 48 (x1 : Int32).toNatClampNeg)))) : B_Or_followBest_92 h d x1 S K := by
  unfold B_Or_followBest_92
  refine x_aload_n (x_at tdX3_followBest 57 rfl) rfl rfl ?_
  refine x_aload_n (x_at tdX3_followBest 58 rfl) rfl rfl ?_
  refine gfC_46_5 (x_at tdX3_followBest 59 rfl) wf_X3_15 ?_
  refine x_iload_n (x_at tdX3_followBest 60 rfl) rfl rfl ?_
  refine x_iald (lC_48 h) (x_at tdX3_followBest 61 rfl) H.1 ?_
  have H := H.2
  refine pfC_46_11 (x_at tdX3_followBest 62 rfl) wf_X3_103 ?_
  exact x_return rfl (x_at tdX3_followBest 63 rfl) ⟨rfl, H⟩
theorem e_Or_lookAt {h : xH} {d : Nat} {x1 : Int32} {S : xSt} {K : xSt → Prop}  (H : B_Or_lookAt_7 h d x1 0 (x_putI S 46 3 0) K) : M_Or_lookAt h d x1 S K := by
  refine x_enter pn_X3 (Nat.le_of_ble_eq_true rfl) ?_
  show X (gC h) _ _ 0 [(0, .ref (x_ad (gC h) 46)), (1, .int x1)] [] S _
  refine x_aload_n (x_at tdX3_lookAt 0 rfl) rfl rfl ?_
  refine x_iconst (x_at tdX3_lookAt 1 rfl) k_c_0 ?_
  refine pfC_46_3 (x_at tdX3_lookAt 2 rfl) wf_X3_36 ?_
  refine x_iconst (x_at tdX3_lookAt 3 rfl) k_c_0 ?_
  refine x_istore_n (x_at tdX3_lookAt 4 rfl) rfl (by decide) ?_
  refine x_weak (lv' := [(0, .ref (x_ad (gC h) 46)), (1, .int x1), (2, .int 0)]) ⟨rfl, rfl, rfl, trivial⟩ ?_
  exact H
theorem b_Or_lookAt_7 {h : xH} {d : Nat}  {x1 : Int32} {x2 : Int32} {S : xSt} {K : xSt → Prop}  (H : (((S.1 2 6) ≤ x2 → B_Or_lookAt_74 h d 0 (x_putI S 48 0 0) K) ∧ (¬ (S.1 2 6) ≤ x2 → M_Co_isOnMan h d x2 x1 S (fun (r1 : Int32) (S1 : xSt) => ((r1 = 0 → B_Or_lookAt_59 h d x1 x2 S1 K) ∧ (¬ r1 = 0 → ((10 ≤ (S1.1 46 3) → B_Or_lookAt_59 h d x1 x2 S1 K) ∧ (¬ 10 ≤ (S1.1 46 3) → (vp_in (S1.1 46 3) 10 ∧ B_Or_lookAt_59 h d x1 x2 (x_putI (x_putI S1 47 ((S1.1 46 3) : Int32).toNatClampNeg x2) 46 3 ((S1.1 46 3) + (1 : Int32))) K))))))))) : B_Or_lookAt_7 h d x1 x2 S K := by
  unfold B_Or_lookAt_7
  refine x_iload_n (x_at tdX3_lookAt 5 rfl) rfl rfl ?_
  refine x_aload_n (x_at tdX3_lookAt 6 rfl) rfl rfl ?_
  refine gfC_46_0 (x_at tdX3_lookAt 7 rfl) wf_X3_28 ?_
  refine gfC_2_6 (x_at tdX3_lookAt 8 rfl) wf_X3_40 ?_
  refine x_ic_ge 65 (x_at tdX3_lookAt 9 rfl) rfl (fun c => ?_) (fun c => ?_)
  · have H := H.1 c
    refine x_aload_n (x_at tdX3_lookAt 34 rfl) rfl rfl ?_
    refine gfC_46_5 (x_at tdX3_lookAt 35 rfl) wf_X3_15 ?_
    refine x_iconst (x_at tdX3_lookAt 36 rfl) k_c_0 ?_
    refine x_iconst (x_at tdX3_lookAt 37 rfl) k_c_0 ?_
    refine x_iast (lC_48 h) (x_at tdX3_lookAt 38 rfl) vi_0_64 ?_
    refine x_iconst (x_at tdX3_lookAt 39 rfl) k_c_0 ?_
    refine x_istore_n (x_at tdX3_lookAt 40 rfl) rfl (by decide) ?_
    refine x_weak (lv' := [(0, .ref (x_ad (gC h) 46)), (2, .int 0)]) ⟨rfl, rfl, trivial⟩ ?_
    exact H
  · have H := H.2 c
    refine x_aload_n (x_at tdX3_lookAt 10 rfl) rfl rfl ?_
    refine gfC_46_1 (x_at tdX3_lookAt 11 rfl) wf_X3_32 ?_
    refine x_iload_n (x_at tdX3_lookAt 12 rfl) rfl rfl ?_
    refine x_iload_n (x_at tdX3_lookAt 13 rfl) rfl rfl ?_
    refine x_cVi (as := [.int x2, .int x1]) (rest := []) mi_X0_isOnMan vc_0 (lC_41 h) (x_at tdX3_lookAt 14 rfl) wm_X3_45 rfl (Nat.le_of_ble_eq_true rfl) rfl H (fun r1 S1 H => ?_)
    refine x_if_eq 59 (x_at tdX3_lookAt 15 rfl) rfl (fun c => ?_) (fun c => ?_)
    · have H := H.1 c
      refine x_weak (lv' := [(0, .ref (x_ad (gC h) 46)), (1, .int x1), (2, .int x2)]) ⟨rfl, rfl, rfl, trivial⟩ ?_
      exact H
    · have H := H.2 c
      refine x_aload_n (x_at tdX3_lookAt 16 rfl) rfl rfl ?_
      refine gfC_46_3 (x_at tdX3_lookAt 17 rfl) wf_X3_36 ?_
      refine x_bipush (x_at tdX3_lookAt 18 rfl) k_b_10 ?_
      refine x_ic_ge 59 (x_at tdX3_lookAt 19 rfl) rfl (fun c => ?_) (fun c => ?_)
      · have H := H.1 c
        refine x_weak (lv' := [(0, .ref (x_ad (gC h) 46)), (1, .int x1), (2, .int x2)]) ⟨rfl, rfl, rfl, trivial⟩ ?_
        exact H
      · have H := H.2 c
        refine x_aload_n (x_at tdX3_lookAt 20 rfl) rfl rfl ?_
        refine gfC_46_2 (x_at tdX3_lookAt 21 rfl) wf_X3_9 ?_
        refine x_aload_n (x_at tdX3_lookAt 22 rfl) rfl rfl ?_
        refine gfC_46_3 (x_at tdX3_lookAt 23 rfl) wf_X3_36 ?_
        refine x_iload_n (x_at tdX3_lookAt 24 rfl) rfl rfl ?_
        refine x_iast (lC_47 h) (x_at tdX3_lookAt 25 rfl) H.1 ?_
        have H := H.2
        refine x_aload_n (x_at tdX3_lookAt 26 rfl) rfl rfl ?_
        refine x_dup (x_at tdX3_lookAt 27 rfl) rfl ?_
        refine gfC_46_3 (x_at tdX3_lookAt 28 rfl) wf_X3_36 ?_
        refine x_top (v := (S1.1 46 3)) rfl ?_
        refine x_iconst (x_at tdX3_lookAt 29 rfl) k_c_1 ?_
        refine x_iadd (x_at tdX3_lookAt 30 rfl) ?_
        refine pfC_46_3 (x_at tdX3_lookAt 31 rfl) wf_X3_36 ?_
        refine x_weak (lv' := [(0, .ref (x_ad (gC h) 46)), (1, .int x1), (2, .int x2)]) ⟨rfl, rfl, rfl, trivial⟩ ?_
        exact H
theorem b_Or_lookAt_59 {h : xH} {d : Nat}  {x1 : Int32} {x2 : Int32} {S : xSt} {K : xSt → Prop}  (H : B_Or_lookAt_7 h d x1 (x2 + 1) S K) : B_Or_lookAt_59 h d x1 x2 S K := by
  unfold B_Or_lookAt_59
  refine x_iinc (x_at tdX3_lookAt 32 rfl) rfl (k_inc_1 _) (by decide) ?_
  refine x_goto 7 (x_at tdX3_lookAt 33 rfl) rfl ?_
  refine x_weak (lv' := [(0, .ref (x_ad (gC h) 46)), (1, .int x1), (2, .int (x2 + 1))]) ⟨rfl, rfl, rfl, trivial⟩ ?_
  exact H
theorem b_Or_lookAt_74 {h : xH} {d : Nat}  {x2 : Int32} {S : xSt} {K : xSt → Prop}  (H : (((S.1 2 4) ≤ x2 → K S) ∧ (¬ (S.1 2 4) ≤ x2 → B_Or_lookAt_87 h d x2 0 S K))) : B_Or_lookAt_74 h d x2 S K := by
  unfold B_Or_lookAt_74
  refine x_iload_n (x_at tdX3_lookAt 41 rfl) rfl rfl ?_
  refine x_aload_n (x_at tdX3_lookAt 42 rfl) rfl rfl ?_
  refine gfC_46_0 (x_at tdX3_lookAt 43 rfl) wf_X3_28 ?_
  refine gfC_2_4 (x_at tdX3_lookAt 44 rfl) wf_X3_51 ?_
  refine x_ic_ge 132 (x_at tdX3_lookAt 45 rfl) rfl (fun c => ?_) (fun c => ?_)
  · have H := H.1 c
    exact x_return rfl (x_at tdX3_lookAt 75 rfl) ⟨rfl, H⟩
  · have H := H.2 c
    refine x_iconst (x_at tdX3_lookAt 46 rfl) k_c_0 ?_
    refine x_istore_n (x_at tdX3_lookAt 47 rfl) rfl (by decide) ?_
    refine x_weak (lv' := [(0, .ref (x_ad (gC h) 46)), (2, .int x2), (3, .int 0)]) ⟨rfl, rfl, rfl, trivial⟩ ?_
    exact H
theorem b_Or_lookAt_87 {h : xH} {d : Nat}  {x2 : Int32} {x3 : Int32} {S : xSt} {K : xSt → Prop}  (H : ((((1 : Int32) <<< (x2 &&& 31)) ≤ x3 → B_Or_lookAt_74 h d (x2 + 1) S K) ∧ (¬ ((1 : Int32) <<< (x2 &&& 31)) ≤ x3 → (vp_in x3 64 ∧ (vp_in x2 6 ∧ (vp_in (x3 ||| ((1 : Int32) <<< (x2 &&& 31))) 64 ∧ B_Or_lookAt_87 h d x2 (x3 + 1) (x_putI S 48 ((x3 ||| ((1 : Int32) <<< (x2 &&& 31))) : Int32).toNatClampNeg ((S.1 48 (x3 : Int32).toNatClampNeg) + (S.1 6 (x2 : Int32).toNatClampNeg))) K)))))) : B_Or_lookAt_87 h d x2 x3 S K := by
  unfold B_Or_lookAt_87
  refine x_iload_n (x_at tdX3_lookAt 48 rfl) rfl rfl ?_
  refine x_iconst (x_at tdX3_lookAt 49 rfl) k_c_1 ?_
  refine x_iload_n (x_at tdX3_lookAt 50 rfl) rfl rfl ?_
  refine x_ishl (x_at tdX3_lookAt 51 rfl) ?_
  refine x_ic_ge 126 (x_at tdX3_lookAt 52 rfl) rfl (fun c => ?_) (fun c => ?_)
  · have H := H.1 c
    refine x_iinc (x_at tdX3_lookAt 73 rfl) rfl (k_inc_1 _) (by decide) ?_
    refine x_goto 74 (x_at tdX3_lookAt 74 rfl) rfl ?_
    refine x_weak (lv' := [(0, .ref (x_ad (gC h) 46)), (2, .int (x2 + 1))]) ⟨rfl, rfl, trivial⟩ ?_
    exact H
  · have H := H.2 c
    refine x_aload_n (x_at tdX3_lookAt 53 rfl) rfl rfl ?_
    refine gfC_46_5 (x_at tdX3_lookAt 54 rfl) wf_X3_15 ?_
    refine x_iload_n (x_at tdX3_lookAt 55 rfl) rfl rfl ?_
    refine x_iconst (x_at tdX3_lookAt 56 rfl) k_c_1 ?_
    refine x_iload_n (x_at tdX3_lookAt 57 rfl) rfl rfl ?_
    refine x_ishl (x_at tdX3_lookAt 58 rfl) ?_
    refine x_ior (x_at tdX3_lookAt 59 rfl) ?_
    refine x_aload_n (x_at tdX3_lookAt 60 rfl) rfl rfl ?_
    refine gfC_46_5 (x_at tdX3_lookAt 61 rfl) wf_X3_15 ?_
    refine x_iload_n (x_at tdX3_lookAt 62 rfl) rfl rfl ?_
    refine x_iald (lC_48 h) (x_at tdX3_lookAt 63 rfl) H.1 ?_
    have H := H.2
    refine x_aload_n (x_at tdX3_lookAt 64 rfl) rfl rfl ?_
    refine gfC_46_0 (x_at tdX3_lookAt 65 rfl) wf_X3_28 ?_
    refine gfC_2_5 (x_at tdX3_lookAt 66 rfl) wf_X3_54 ?_
    refine x_iload_n (x_at tdX3_lookAt 67 rfl) rfl rfl ?_
    refine x_iald (lC_6 h) (x_at tdX3_lookAt 68 rfl) H.1 ?_
    have H := H.2
    refine x_iadd (x_at tdX3_lookAt 69 rfl) ?_
    refine x_iast (lC_48 h) (x_at tdX3_lookAt 70 rfl) H.1 ?_
    have H := H.2
    refine x_iinc (x_at tdX3_lookAt 71 rfl) rfl (k_inc_1 _) (by decide) ?_
    refine x_goto 87 (x_at tdX3_lookAt 72 rfl) rfl ?_
    refine x_weak (lv' := [(0, .ref (x_ad (gC h) 46)), (2, .int x2), (3, .int (x3 + 1))]) ⟨rfl, rfl, rfl, trivial⟩ ?_
    exact H
theorem e_O_keep {h : xH} {d : Nat} {x1 : Int32} {x2 : Int32} {S : xSt} {K : Int32 → xSt → Prop}  (H : M_Rg_hasMan_2 h (d + 3) x1 (x_putI S 0 11 0) (fun (r1 : Int32) (S1 : xSt) => ((r1 = 0 → K (-1) S1) ∧ (¬ r1 = 0 → ((x2 < 0 → K (-1) S1) ∧ (¬ x2 < 0 → ((x2 ≤ 2 → M_Or_lookAt h (d + 2) x1 S1 (fun (S2 : xSt) => M_Co_today h (d + 3) S2 (fun (r3 : Int32) (S3 : xSt) => M_Or_findBest h (d + 1) r3 S3 (fun (S4 : xSt) => M_Or_followBest h d S4 (fun (S5 : xSt) => M_O_layOut h (d + 2) 51 (S5.1 46 9) S5 (fun (S6 : xSt) => ((¬ x2 = 0 → ((¬ x2 = 1 → K (S6.1 46 10) S6) ∧ (x2 = 1 → K (S6.1 46 11) S6))) ∧ (x2 = 0 → M_Jint_bitCount_0f7a4 h (d + 3) (S6.1 46 10) S6 (fun (r7 : Int32) (S7 : xSt) => K r7 S7))))))))) ∧ (¬ x2 ≤ 2 → K (-1) S1)))))))) : M_O_keep h d x1 x2 S K := by
  refine x_enter pn_X11 (Nat.le_of_ble_eq_true rfl) ?_
  show X (gC h) _ _ 0 [(0, .ref (x_ad (gC h) 0)), (1, .int x1), (2, .int x2)] [] S _
  refine x_aload_n (x_at tdX11_keep 0 rfl) rfl rfl ?_
  refine x_iconst (x_at tdX11_keep 1 rfl) k_c_0 ?_
  refine pfC_0_11 (x_at tdX11_keep 2 rfl) wf_X11_123 ?_
  refine x_aload_n (x_at tdX11_keep 3 rfl) rfl rfl ?_
  refine gfC_0_2 (x_at tdX11_keep 4 rfl) wf_X11_16 ?_
  refine x_iload_n (x_at tdX11_keep 5 rfl) rfl rfl ?_
  refine x_cVi (as := [.int x1]) (rest := []) mi_X5_hasMan vc_5 (lC_2 h) (x_at tdX11_keep 6 rfl) wm_X11_158 rfl (Nat.le_of_ble_eq_true rfl) rfl H (fun r1 S1 H => ?_)
  refine x_if_eq 25 (x_at tdX11_keep 7 rfl) rfl (fun c => ?_) (fun c => ?_)
  · have H := H.1 c
    refine x_iconst (x_at tdX11_keep 13 rfl) k_c_m1 ?_
    exact x_ireturn (ty := .int) rfl rfl (x_at tdX11_keep 14 rfl) ⟨_, rfl, H⟩
  · have H := H.2 c
    refine x_iload_n (x_at tdX11_keep 8 rfl) rfl rfl ?_
    refine x_if_lt 25 (x_at tdX11_keep 9 rfl) rfl (fun c => ?_) (fun c => ?_)
    · have H := H.1 c
      refine x_iconst (x_at tdX11_keep 13 rfl) k_c_m1 ?_
      exact x_ireturn (ty := .int) rfl rfl (x_at tdX11_keep 14 rfl) ⟨_, rfl, H⟩
    · have H := H.2 c
      refine x_iload_n (x_at tdX11_keep 10 rfl) rfl rfl ?_
      refine x_iconst (x_at tdX11_keep 11 rfl) k_c_2 ?_
      refine x_ic_le 27 (x_at tdX11_keep 12 rfl) rfl (fun c => ?_) (fun c => ?_)
      · have H := H.1 c
        refine x_aload_n (x_at tdX11_keep 15 rfl) rfl rfl ?_
        refine gfC_0_6 (x_at tdX11_keep 16 rfl) wf_X11_50 ?_
        refine x_iload_n (x_at tdX11_keep 17 rfl) rfl rfl ?_
        refine x_cVv (as := [.int x1]) (rest := []) mi_X3_lookAt vc_3 (lC_46 h) (x_at tdX11_keep 18 rfl) wm_X11_209 rfl (Nat.le_of_ble_eq_true rfl) rfl H (fun S2 H => ?_)
        refine x_aload_n (x_at tdX11_keep 19 rfl) rfl rfl ?_
        refine gfC_0_6 (x_at tdX11_keep 20 rfl) wf_X11_50 ?_
        refine x_aload_n (x_at tdX11_keep 21 rfl) rfl rfl ?_
        refine gfC_0_4 (x_at tdX11_keep 22 rfl) wf_X11_32 ?_
        refine x_cVi (as := []) (rest := [.ref (x_ad (gC h) 46)]) mi_X0_today vc_0 (lC_41 h) (x_at tdX11_keep 23 rfl) wm_X11_196 rfl (Nat.le_of_ble_eq_true rfl) rfl H (fun r3 S3 H => ?_)
        refine x_cVv (as := [.int r3]) (rest := []) mi_X3_findBest vc_3 (lC_46 h) (x_at tdX11_keep 24 rfl) wm_X11_212 rfl (Nat.le_of_ble_eq_true rfl) rfl H (fun S4 H => ?_)
        refine x_aload_n (x_at tdX11_keep 25 rfl) rfl rfl ?_
        refine gfC_0_6 (x_at tdX11_keep 26 rfl) wf_X11_50 ?_
        refine x_cVv (as := []) (rest := []) mi_X3_followBest vc_3 (lC_46 h) (x_at tdX11_keep 27 rfl) wm_X11_215 rfl (Nat.le_of_ble_eq_true rfl) rfl H (fun S5 H => ?_)
        refine x_aload_n (x_at tdX11_keep 28 rfl) rfl rfl ?_
        refine x_aload_n (x_at tdX11_keep 29 rfl) rfl rfl ?_
        refine gfC_0_6 (x_at tdX11_keep 30 rfl) wf_X11_50 ?_
        refine gfC_46_8 (x_at tdX11_keep 31 rfl) wf_X11_218 ?_
        refine x_aload_n (x_at tdX11_keep 32 rfl) rfl rfl ?_
        refine gfC_0_6 (x_at tdX11_keep 33 rfl) wf_X11_50 ?_
        refine gfC_46_9 (x_at tdX11_keep 34 rfl) wf_X11_221 ?_
        refine x_cVv (as := [.ref (x_ad (gC h) 51), .int (S5.1 46 9)]) (rest := []) mi_X11_layOut vc_11 (lC_0 h) (x_at tdX11_keep 35 rfl) wm_X11_224 rfl (Nat.le_of_ble_eq_true rfl) rfl H (fun S6 H => ?_)
        refine x_iload_n (x_at tdX11_keep 36 rfl) rfl rfl ?_
        refine x_if_ne 89 (x_at tdX11_keep 37 rfl) rfl (fun c => ?_) (fun c => ?_)
        · have H := H.1 c
          refine x_iload_n (x_at tdX11_keep 43 rfl) rfl rfl ?_
          refine x_iconst (x_at tdX11_keep 44 rfl) k_c_1 ?_
          refine x_ic_ne 104 (x_at tdX11_keep 45 rfl) rfl (fun c => ?_) (fun c => ?_)
          · have H := H.1 c
            refine x_aload_n (x_at tdX11_keep 50 rfl) rfl rfl ?_
            refine gfC_0_6 (x_at tdX11_keep 51 rfl) wf_X11_50 ?_
            refine gfC_46_10 (x_at tdX11_keep 52 rfl) wf_X11_228 ?_
            exact x_ireturn (ty := .int) rfl rfl (x_at tdX11_keep 53 rfl) ⟨_, rfl, H⟩
          · have H := H.2 c
            refine x_aload_n (x_at tdX11_keep 46 rfl) rfl rfl ?_
            refine gfC_0_6 (x_at tdX11_keep 47 rfl) wf_X11_50 ?_
            refine gfC_46_11 (x_at tdX11_keep 48 rfl) wf_X11_236 ?_
            refine x_goto 111 (x_at tdX11_keep 49 rfl) rfl ?_
            exact x_ireturn (ty := .int) rfl rfl (x_at tdX11_keep 53 rfl) ⟨_, rfl, H⟩
        · have H := H.2 c
          refine x_aload_n (x_at tdX11_keep 38 rfl) rfl rfl ?_
          refine gfC_0_6 (x_at tdX11_keep 39 rfl) wf_X11_50 ?_
          refine gfC_46_10 (x_at tdX11_keep 40 rfl) wf_X11_228 ?_
          refine x_cSi (as := [.int (S6.1 46 10)]) (rest := []) mi_J6_bitCount_0f7a4 (x_at tdX11_keep 41 rfl) wm_X11_231 rfl (Nat.le_of_ble_eq_true rfl) rfl H (fun r7 S7 H => ?_)
          exact x_ireturn (ty := .int) rfl rfl (x_at tdX11_keep 42 rfl) ⟨_, rfl, H⟩
      · have H := H.2 c
        refine x_iconst (x_at tdX11_keep 13 rfl) k_c_m1 ?_
        exact x_ireturn (ty := .int) rfl rfl (x_at tdX11_keep 14 rfl) ⟨_, rfl, H⟩
theorem e_Or_mostKept {h : xH} {d : Nat} {x1 : Int32} {S : xSt} {K : Int32 → xSt → Prop}  (H : M_Or_findBest h d x1 S (fun (S1 : xSt) => K ((((S1.1 49 0) + (1000 : Int32)) - (1 : Int32)) / 1000) S1)) : M_Or_mostKept h d x1 S K := by
  refine x_enter pn_X3 (Nat.le_of_ble_eq_true rfl) ?_
  show X (gC h) _ _ 0 [(0, .ref (x_ad (gC h) 46)), (1, .int x1)] [] S _
  refine x_aload_n (x_at tdX3_mostKept 0 rfl) rfl rfl ?_
  refine x_iload_n (x_at tdX3_mostKept 1 rfl) rfl rfl ?_
  refine x_cVv (as := [.int x1]) (rest := []) mi_X3_findBest vc_3 (lC_46 h) (x_at tdX3_mostKept 2 rfl) wm_X3_69 rfl (Nat.le_of_ble_eq_true rfl) rfl H (fun S1 H => ?_)
  refine x_aload_n (x_at tdX3_mostKept 3 rfl) rfl rfl ?_
  refine gfC_46_6 (x_at tdX3_mostKept 4 rfl) wf_X3_18 ?_
  refine x_iconst (x_at tdX3_mostKept 5 rfl) k_c_0 ?_
  refine x_iald (lC_49 h) (x_at tdX3_mostKept 6 rfl) vi_0_64 ?_
  refine x_top (v := (S1.1 49 0)) rfl ?_
  refine x_sipush (x_at tdX3_mostKept 7 rfl) k_s_1000 ?_
  refine x_iadd (x_at tdX3_mostKept 8 rfl) ?_
  refine x_iconst (x_at tdX3_mostKept 9 rfl) k_c_1 ?_
  refine x_isub (x_at tdX3_mostKept 10 rfl) ?_
  refine x_sipush (x_at tdX3_mostKept 11 rfl) k_s_1000 ?_
  refine x_idiv (x_at tdX3_mostKept 12 rfl) (by decide) ?_
  exact x_ireturn (ty := .int) rfl rfl (x_at tdX3_mostKept 13 rfl) ⟨_, rfl, H⟩
theorem e_O_rest {h : xH} {d : Nat} {x1 : Int32} {S : xSt} {K : Int32 → xSt → Prop}  (H : M_Rg_hasMan_2 h (d + 3) x1 S (fun (r1 : Int32) (S1 : xSt) => ((¬ r1 = 0 → M_Or_lookAt h (d + 2) x1 S1 (fun (S2 : xSt) => M_Co_today h (d + 3) S2 (fun (r3 : Int32) (S3 : xSt) => M_Or_mostKept h d r3 S3 (fun (r4 : Int32) (S4 : xSt) => B_O_rest_39 h d r4 60 S4 K)))) ∧ (r1 = 0 → K (-1) S1)))) : M_O_rest h d x1 S K := by
  refine x_enter pn_X11 (Nat.le_of_ble_eq_true rfl) ?_
  show X (gC h) _ _ 0 [(0, .ref (x_ad (gC h) 0)), (1, .int x1)] [] S _
  refine x_aload_n (x_at tdX11_rest 0 rfl) rfl rfl ?_
  refine gfC_0_2 (x_at tdX11_rest 1 rfl) wf_X11_16 ?_
  refine x_iload_n (x_at tdX11_rest 2 rfl) rfl rfl ?_
  refine x_cVi (as := [.int x1]) (rest := []) mi_X5_hasMan vc_5 (lC_2 h) (x_at tdX11_rest 3 rfl) wm_X11_158 rfl (Nat.le_of_ble_eq_true rfl) rfl H (fun r1 S1 H => ?_)
  refine x_if_ne 13 (x_at tdX11_rest 4 rfl) rfl (fun c => ?_) (fun c => ?_)
  · have H := H.1 c
    refine x_aload_n (x_at tdX11_rest 7 rfl) rfl rfl ?_
    refine gfC_0_6 (x_at tdX11_rest 8 rfl) wf_X11_50 ?_
    refine x_iload_n (x_at tdX11_rest 9 rfl) rfl rfl ?_
    refine x_cVv (as := [.int x1]) (rest := []) mi_X3_lookAt vc_3 (lC_46 h) (x_at tdX11_rest 10 rfl) wm_X11_209 rfl (Nat.le_of_ble_eq_true rfl) rfl H (fun S2 H => ?_)
    refine x_aload_n (x_at tdX11_rest 11 rfl) rfl rfl ?_
    refine gfC_0_6 (x_at tdX11_rest 12 rfl) wf_X11_50 ?_
    refine x_aload_n (x_at tdX11_rest 13 rfl) rfl rfl ?_
    refine gfC_0_4 (x_at tdX11_rest 14 rfl) wf_X11_32 ?_
    refine x_cVi (as := []) (rest := [.ref (x_ad (gC h) 46)]) mi_X0_today vc_0 (lC_41 h) (x_at tdX11_rest 15 rfl) wm_X11_196 rfl (Nat.le_of_ble_eq_true rfl) rfl H (fun r3 S3 H => ?_)
    refine x_cVi (as := [.int r3]) (rest := []) mi_X3_mostKept vc_3 (lC_46 h) (x_at tdX11_rest 16 rfl) wm_X11_239 rfl (Nat.le_of_ble_eq_true rfl) rfl H (fun r4 S4 H => ?_)
    refine x_istore_n (x_at tdX11_rest 17 rfl) rfl (by decide) ?_
    refine x_bipush (x_at tdX11_rest 18 rfl) k_b_60 ?_
    refine x_istore_n (x_at tdX11_rest 19 rfl) rfl (by decide) ?_
    refine x_weak (lv' := [(0, .ref (x_ad (gC h) 0)), (2, .int r4), (3, .int 60)]) ⟨rfl, rfl, rfl, trivial⟩ ?_
    exact H
  · have H := H.2 c
    refine x_iconst (x_at tdX11_rest 5 rfl) k_c_m1 ?_
    exact x_ireturn (ty := .int) rfl rfl (x_at tdX11_rest 6 rfl) ⟨_, rfl, H⟩
theorem b_O_rest_39 {h : xH} {d : Nat}  {x2 : Int32} {x3 : Int32} {S : xSt} {K : Int32 → xSt → Prop}  (H : ((x3 ≤ 0 → K 0 S) ∧ (¬ x3 ≤ 0 → ((x2 = 0 → K x3 S) ∧ (¬ x2 = 0 → M_Co_today h (d + 3) S (fun (r1 : Int32) (S1 : xSt) => M_Or_mostKept h d (r1 + x3) S1 (fun (r2 : Int32) (S2 : xSt) => ((r2 < x2 → B_O_rest_39 h d x2 (x3 + (-1)) S2 K) ∧ (¬ r2 < x2 → K x3 S2))))))))) : B_O_rest_39 h d x2 x3 S K := by
  unfold B_O_rest_39
  refine x_iload_n (x_at tdX11_rest 20 rfl) rfl rfl ?_
  refine x_if_le 75 (x_at tdX11_rest 21 rfl) rfl (fun c => ?_) (fun c => ?_)
  · have H := H.1 c
    refine x_iconst (x_at tdX11_rest 38 rfl) k_c_0 ?_
    exact x_ireturn (ty := .int) rfl rfl (x_at tdX11_rest 39 rfl) ⟨_, rfl, H⟩
  · have H := H.2 c
    refine x_iload_n (x_at tdX11_rest 22 rfl) rfl rfl ?_
    refine x_if_eq 67 (x_at tdX11_rest 23 rfl) rfl (fun c => ?_) (fun c => ?_)
    · have H := H.1 c
      refine x_iload_n (x_at tdX11_rest 34 rfl) rfl rfl ?_
      exact x_ireturn (ty := .int) rfl rfl (x_at tdX11_rest 35 rfl) ⟨_, rfl, H⟩
    · have H := H.2 c
      refine x_aload_n (x_at tdX11_rest 24 rfl) rfl rfl ?_
      refine gfC_0_6 (x_at tdX11_rest 25 rfl) wf_X11_50 ?_
      refine x_aload_n (x_at tdX11_rest 26 rfl) rfl rfl ?_
      refine gfC_0_4 (x_at tdX11_rest 27 rfl) wf_X11_32 ?_
      refine x_cVi (as := []) (rest := [.ref (x_ad (gC h) 46)]) mi_X0_today vc_0 (lC_41 h) (x_at tdX11_rest 28 rfl) wm_X11_196 rfl (Nat.le_of_ble_eq_true rfl) rfl H (fun r1 S1 H => ?_)
      refine x_iload_n (x_at tdX11_rest 29 rfl) rfl rfl ?_
      refine x_iadd (x_at tdX11_rest 30 rfl) ?_
      refine x_cVi (as := [.int (r1 + x3)]) (rest := []) mi_X3_mostKept vc_3 (lC_46 h) (x_at tdX11_rest 31 rfl) wm_X11_239 rfl (Nat.le_of_ble_eq_true rfl) rfl H (fun r2 S2 H => ?_)
      refine x_iload_n (x_at tdX11_rest 32 rfl) rfl rfl ?_
      refine x_ic_lt 69 (x_at tdX11_rest 33 rfl) rfl (fun c => ?_) (fun c => ?_)
      · have H := H.1 c
        refine x_iinc (x_at tdX11_rest 36 rfl) rfl (k_inc_m1 _) (by decide) ?_
        refine x_goto 39 (x_at tdX11_rest 37 rfl) rfl ?_
        refine x_weak (lv' := [(0, .ref (x_ad (gC h) 0)), (2, .int x2), (3, .int (x3 + (-1)))]) ⟨rfl, rfl, rfl, trivial⟩ ?_
        exact H
      · have H := H.2 c
        refine x_iload_n (x_at tdX11_rest 34 rfl) rfl rfl ?_
        exact x_ireturn (ty := .int) rfl rfl (x_at tdX11_rest 35 rfl) ⟨_, rfl, H⟩
theorem e_O_ties {h : xH} {d : Nat} {x1 : Int32} {x2 : Int32} {S : xSt} {K : Int32 → xSt → Prop}  (H : M_Rg_hasMan_2 h d x1 S (fun (r1 : Int32) (S1 : xSt) => ((r1 = 0 → K (-1) S1) ∧ (¬ r1 = 0 → M_Rg_hasMan_2 h d x2 S1 (fun (r2 : Int32) (S2 : xSt) => ((r2 = 0 → K (-1) S2) ∧ (¬ r2 = 0 → ((¬ x1 = x2 → B_O_ties_34 h d x1 x2 0 0 S2 K) ∧ (x1 = x2 → K (-1) S2))))))))) : M_O_ties h d x1 x2 S K := by
  refine x_enter pn_X11 (Nat.le_of_ble_eq_true rfl) ?_
  show X (gC h) _ _ 0 [(0, .ref (x_ad (gC h) 0)), (1, .int x1), (2, .int x2)] [] S _
  refine x_aload_n (x_at tdX11_ties 0 rfl) rfl rfl ?_
  refine gfC_0_2 (x_at tdX11_ties 1 rfl) wf_X11_16 ?_
  refine x_iload_n (x_at tdX11_ties 2 rfl) rfl rfl ?_
  refine x_cVi (as := [.int x1]) (rest := []) mi_X5_hasMan vc_5 (lC_2 h) (x_at tdX11_ties 3 rfl) wm_X11_158 rfl (Nat.le_of_ble_eq_true rfl) rfl H (fun r1 S1 H => ?_)
  refine x_if_eq 27 (x_at tdX11_ties 4 rfl) rfl (fun c => ?_) (fun c => ?_)
  · have H := H.1 c
    refine x_iconst (x_at tdX11_ties 13 rfl) k_c_m1 ?_
    exact x_ireturn (ty := .int) rfl rfl (x_at tdX11_ties 14 rfl) ⟨_, rfl, H⟩
  · have H := H.2 c
    refine x_aload_n (x_at tdX11_ties 5 rfl) rfl rfl ?_
    refine gfC_0_2 (x_at tdX11_ties 6 rfl) wf_X11_16 ?_
    refine x_iload_n (x_at tdX11_ties 7 rfl) rfl rfl ?_
    refine x_cVi (as := [.int x2]) (rest := []) mi_X5_hasMan vc_5 (lC_2 h) (x_at tdX11_ties 8 rfl) wm_X11_158 rfl (Nat.le_of_ble_eq_true rfl) rfl H (fun r2 S2 H => ?_)
    refine x_if_eq 27 (x_at tdX11_ties 9 rfl) rfl (fun c => ?_) (fun c => ?_)
    · have H := H.1 c
      refine x_iconst (x_at tdX11_ties 13 rfl) k_c_m1 ?_
      exact x_ireturn (ty := .int) rfl rfl (x_at tdX11_ties 14 rfl) ⟨_, rfl, H⟩
    · have H := H.2 c
      refine x_iload_n (x_at tdX11_ties 10 rfl) rfl rfl ?_
      refine x_iload_n (x_at tdX11_ties 11 rfl) rfl rfl ?_
      refine x_ic_ne 29 (x_at tdX11_ties 12 rfl) rfl (fun c => ?_) (fun c => ?_)
      · have H := H.1 c
        refine x_iconst (x_at tdX11_ties 15 rfl) k_c_0 ?_
        refine x_istore_n (x_at tdX11_ties 16 rfl) rfl (by decide) ?_
        refine x_iconst (x_at tdX11_ties 17 rfl) k_c_0 ?_
        refine x_istore (x_at tdX11_ties 18 rfl) (by decide) ?_
        refine x_weak (lv' := [(0, .ref (x_ad (gC h) 0)), (1, .int x1), (2, .int x2), (3, .int 0), (4, .int 0)]) ⟨rfl, rfl, rfl, rfl, rfl, trivial⟩ ?_
        exact H
      · have H := H.2 c
        refine x_iconst (x_at tdX11_ties 13 rfl) k_c_m1 ?_
        exact x_ireturn (ty := .int) rfl rfl (x_at tdX11_ties 14 rfl) ⟨_, rfl, H⟩
theorem b_O_ties_34 {h : xH} {d : Nat}  {x1 : Int32} {x2 : Int32} {x3 : Int32} {x4 : Int32} {S : xSt} {K : Int32 → xSt → Prop}  (H : (((S.1 2 6) ≤ x4 → K x3 S) ∧ (¬ (S.1 2 6) ≤ x4 → M_Co_isOnMan h d x4 x1 S (fun (r1 : Int32) (S1 : xSt) => ((r1 = 0 → B_O_ties_80 h d x1 x2 x3 x4 S1 K) ∧ (¬ r1 = 0 → (vp_in x4 10 ∧ ((¬ (S1.1 8 (x4 : Int32).toNatClampNeg) = x2 → B_O_ties_80 h d x1 x2 x3 x4 S1 K) ∧ ((S1.1 8 (x4 : Int32).toNatClampNeg) = x2 → B_O_ties_80 h d x1 x2 (x3 ||| ((1 : Int32) <<< (x4 &&& 31))) x4 S1 K))))))))) : B_O_ties_34 h d x1 x2 x3 x4 S K := by
  unfold B_O_ties_34
  refine x_iload (x_at tdX11_ties 19 rfl) rfl ?_
  refine x_aload_n (x_at tdX11_ties 20 rfl) rfl rfl ?_
  refine gfC_0_2 (x_at tdX11_ties 21 rfl) wf_X11_16 ?_
  refine gfC_2_6 (x_at tdX11_ties 22 rfl) wf_X11_126 ?_
  refine x_ic_ge 86 (x_at tdX11_ties 23 rfl) rfl (fun c => ?_) (fun c => ?_)
  · have H := H.1 c
    refine x_iload_n (x_at tdX11_ties 45 rfl) rfl rfl ?_
    exact x_ireturn (ty := .int) rfl rfl (x_at tdX11_ties 46 rfl) ⟨_, rfl, H⟩
  · have H := H.2 c
    refine x_aload_n (x_at tdX11_ties 24 rfl) rfl rfl ?_
    refine gfC_0_4 (x_at tdX11_ties 25 rfl) wf_X11_32 ?_
    refine x_iload (x_at tdX11_ties 26 rfl) rfl ?_
    refine x_iload_n (x_at tdX11_ties 27 rfl) rfl rfl ?_
    refine x_cVi (as := [.int x4, .int x1]) (rest := []) mi_X0_isOnMan vc_0 (lC_41 h) (x_at tdX11_ties 28 rfl) wm_X11_242 rfl (Nat.le_of_ble_eq_true rfl) rfl H (fun r1 S1 H => ?_)
    refine x_if_eq 80 (x_at tdX11_ties 29 rfl) rfl (fun c => ?_) (fun c => ?_)
    · have H := H.1 c
      refine x_weak (lv' := [(0, .ref (x_ad (gC h) 0)), (1, .int x1), (2, .int x2), (3, .int x3), (4, .int x4)]) ⟨rfl, rfl, rfl, rfl, rfl, trivial⟩ ?_
      exact H
    · have H := H.2 c
      refine x_aload_n (x_at tdX11_ties 30 rfl) rfl rfl ?_
      refine gfC_0_2 (x_at tdX11_ties 31 rfl) wf_X11_16 ?_
      refine gfC_2_8 (x_at tdX11_ties 32 rfl) wf_X11_143 ?_
      refine x_iload (x_at tdX11_ties 33 rfl) rfl ?_
      refine x_iald (lC_8 h) (x_at tdX11_ties 34 rfl) H.1 ?_
      have H := H.2
      refine x_iload_n (x_at tdX11_ties 35 rfl) rfl rfl ?_
      refine x_ic_ne 80 (x_at tdX11_ties 36 rfl) rfl (fun c => ?_) (fun c => ?_)
      · have H := H.1 c
        refine x_weak (lv' := [(0, .ref (x_ad (gC h) 0)), (1, .int x1), (2, .int x2), (3, .int x3), (4, .int x4)]) ⟨rfl, rfl, rfl, rfl, rfl, trivial⟩ ?_
        exact H
      · have H := H.2 c
        refine x_iload_n (x_at tdX11_ties 37 rfl) rfl rfl ?_
        refine x_iconst (x_at tdX11_ties 38 rfl) k_c_1 ?_
        refine x_iload (x_at tdX11_ties 39 rfl) rfl ?_
        refine x_ishl (x_at tdX11_ties 40 rfl) ?_
        refine x_ior (x_at tdX11_ties 41 rfl) ?_
        refine x_istore_n (x_at tdX11_ties 42 rfl) rfl (by decide) ?_
        refine x_weak (lv' := [(0, .ref (x_ad (gC h) 0)), (1, .int x1), (2, .int x2), (3, .int (x3 ||| ((1 : Int32) <<< (x4 &&& 31)))), (4, .int x4)]) ⟨rfl, rfl, rfl, rfl, rfl, trivial⟩ ?_
        exact H
theorem b_O_ties_80 {h : xH} {d : Nat}  {x1 : Int32} {x2 : Int32} {x3 : Int32} {x4 : Int32} {S : xSt} {K : Int32 → xSt → Prop}  (H : B_O_ties_34 h d x1 x2 x3 (x4 + 1) S K) : B_O_ties_80 h d x1 x2 x3 x4 S K := by
  unfold B_O_ties_80
  refine x_iinc (x_at tdX11_ties 43 rfl) rfl (k_inc_1 _) (by decide) ?_
  refine x_goto 34 (x_at tdX11_ties 44 rfl) rfl ?_
  refine x_weak (lv' := [(0, .ref (x_ad (gC h) 0)), (1, .int x1), (2, .int x2), (3, .int x3), (4, .int (x4 + 1))]) ⟨rfl, rfl, rfl, rfl, rfl, trivial⟩ ?_
  exact H
end
