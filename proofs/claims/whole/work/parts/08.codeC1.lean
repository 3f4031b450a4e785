section
theorem e_O_putOnTape {h : xH} {d : Nat} {x1 : Int32} {S : xSt} {K : xSt → Prop}  (H : B_O_putOnTape_3 h d x1 24 S K) : M_O_putOnTape h d x1 S K := by
  refine x_enter pn_X11 (Nat.le_of_ble_eq_true rfl) ?_
  show X (gC h) _ _ 0 [(0, .ref (x_ad (gC h) 0)), (1, .int x1)] [] S _
  refine x_bipush (x_at tdX11_putOnTape 0 rfl) k_b_24 ?_
  refine x_istore_n (x_at tdX11_putOnTape 1 rfl) rfl (by decide) ?_
  refine x_weak (lv' := [(0, .ref (x_ad (gC h) 0)), (1, .int x1), (2, .int 24)]) ⟨rfl, rfl, rfl, trivial⟩ ?_
  exact H
theorem b_O_putOnTape_3 {h : xH} {d : Nat}  {x1 : Int32} {x2 : Int32} {S : xSt} {K : xSt → Prop}  (H : ((x2 < 0 → K S) ∧ (¬ x2 < 0 → ((1600 ≤ (S.1 0 1) → B_O_putOnTape_40 h d x1 x2 S K) ∧ (¬ 1600 ≤ (S.1 0 1) → (vp_in (S.1 0 1) 1600 ∧ B_O_putOnTape_40 h d x1 x2 (x_putI (x_putI S 1 ((S.1 0 1) : Int32).toNatClampNeg (vp_nar .byte (((x1 : Int32).toUInt32 >>> ((x2 : Int32).toUInt32 &&& Int32.toUInt32 31)).toInt32 : Int32).toInt8.toInt32)) 0 1 ((S.1 0 1) + (1 : Int32))) K)))))) : B_O_putOnTape_3 h d x1 x2 S K := by
  unfold B_O_putOnTape_3
  refine x_iload_n (x_at tdX11_putOnTape 2 rfl) rfl rfl ?_
  refine x_if_lt 46 (x_at tdX11_putOnTape 3 rfl) rfl (fun c => ?_) (fun c => ?_)
  · have H := H.1 c
    exact x_return rfl (x_at tdX11_putOnTape 25 rfl) ⟨rfl, H⟩
  · have H := H.2 c
    refine x_aload_n (x_at tdX11_putOnTape 4 rfl) rfl rfl ?_
    refine gfC_0_1 (x_at tdX11_putOnTape 5 rfl) wf_X11_89 ?_
    refine x_sipush (x_at tdX11_putOnTape 6 rfl) k_s_1600 ?_
    refine x_ic_ge 40 (x_at tdX11_putOnTape 7 rfl) rfl (fun c => ?_) (fun c => ?_)
    · have H := H.1 c
      refine x_weak (lv' := [(0, .ref (x_ad (gC h) 0)), (1, .int x1), (2, .int x2)]) ⟨rfl, rfl, rfl, trivial⟩ ?_
      exact H
    · have H := H.2 c
      refine x_aload_n (x_at tdX11_putOnTape 8 rfl) rfl rfl ?_
      refine gfC_0_0 (x_at tdX11_putOnTape 9 rfl) wf_X11_9 ?_
      refine x_aload_n (x_at tdX11_putOnTape 10 rfl) rfl rfl ?_
      refine gfC_0_1 (x_at tdX11_putOnTape 11 rfl) wf_X11_89 ?_
      refine x_iload_n (x_at tdX11_putOnTape 12 rfl) rfl rfl ?_
      refine x_iload_n (x_at tdX11_putOnTape 13 rfl) rfl rfl ?_
      refine x_iushr (x_at tdX11_putOnTape 14 rfl) ?_
      refine x_i2b (x_at tdX11_putOnTape 15 rfl) ?_
      refine x_bast (lC_1 h) (x_at tdX11_putOnTape 16 rfl) H.1 ?_
      have H := H.2
      refine x_aload_n (x_at tdX11_putOnTape 17 rfl) rfl rfl ?_
      refine x_dup (x_at tdX11_putOnTape 18 rfl) rfl ?_
      refine gfC_0_1 (x_at tdX11_putOnTape 19 rfl) wf_X11_89 ?_
      refine x_top (v := (S.1 0 1)) rfl ?_
      refine x_iconst (x_at tdX11_putOnTape 20 rfl) k_c_1 ?_
      refine x_iadd (x_at tdX11_putOnTape 21 rfl) ?_
      refine pfC_0_1 (x_at tdX11_putOnTape 22 rfl) wf_X11_89 ?_
      refine x_weak (lv' := [(0, .ref (x_ad (gC h) 0)), (1, .int x1), (2, .int x2)]) ⟨rfl, rfl, rfl, trivial⟩ ?_
      exact H
theorem b_O_putOnTape_40 {h : xH} {d : Nat}  {x1 : Int32} {x2 : Int32} {S : xSt} {K : xSt → Prop}  (H : B_O_putOnTape_3 h d x1 (x2 + (-8)) S K) : B_O_putOnTape_40 h d x1 x2 S K := by
  unfold B_O_putOnTape_40
  refine x_iinc (x_at tdX11_putOnTape 23 rfl) rfl (k_inc_m8 _) (by decide) ?_
  refine x_goto 3 (x_at tdX11_putOnTape 24 rfl) rfl ?_
  refine x_weak (lv' := [(0, .ref (x_ad (gC h) 0)), (1, .int x1), (2, .int (x2 + (-8)))]) ⟨rfl, rfl, rfl, trivial⟩ ?_
  exact H
theorem e_O_feed {h : xH} {d : Nat} {x1 : Int32} {x2 : Int32} {x3 : Int32} {x4 : Int32} {x5 : Int32} {S : xSt} {K : Int32 → xSt → Prop}  (H : ((((S.1 0 1) + (20 : Int32)) ≤ 1600 → M_O_putOnTape h d x1 S (fun (S1 : xSt) => M_O_putOnTape h d x2 S1 (fun (S2 : xSt) => M_O_putOnTape h d x3 S2 (fun (S3 : xSt) => M_O_putOnTape h d x4 S3 (fun (S4 : xSt) => M_O_putOnTape h d x5 S4 (fun (S5 : xSt) => K (S5.1 0 1) S5)))))) ∧ (¬ ((S.1 0 1) + (20 : Int32)) ≤ 1600 → K (-1) S))) : M_O_feed h d x1 x2 x3 x4 x5 S K := by
  refine x_enter pn_X11 (Nat.le_of_ble_eq_true rfl) ?_
  show X (gC h) _ _ 0 [(0, .ref (x_ad (gC h) 0)), (1, .int x1), (2, .int x2), (3, .int x3), (4, .int x4), (5, .int x5)] [] S _
  refine x_aload_n (x_at tdX11_feed 0 rfl) rfl rfl ?_
  refine gfC_0_1 (x_at tdX11_feed 1 rfl) wf_X11_89 ?_
  refine x_bipush (x_at tdX11_feed 2 rfl) k_b_20 ?_
  refine x_iadd (x_at tdX11_feed 3 rfl) ?_
  refine x_sipush (x_at tdX11_feed 4 rfl) k_s_1600 ?_
  refine x_ic_le 15 (x_at tdX11_feed 5 rfl) rfl (fun c => ?_) (fun c => ?_)
  · have H := H.1 c
    refine x_aload_n (x_at tdX11_feed 8 rfl) rfl rfl ?_
    refine x_iload_n (x_at tdX11_feed 9 rfl) rfl rfl ?_
    refine x_cVv (as := [.int x1]) (rest := []) mi_X11_putOnTape vc_11 (lC_0 h) (x_at tdX11_feed 10 rfl) wm_X11_92 rfl (Nat.le_of_ble_eq_true rfl) rfl H (fun S1 H => ?_)
    refine x_aload_n (x_at tdX11_feed 11 rfl) rfl rfl ?_
    refine x_iload_n (x_at tdX11_feed 12 rfl) rfl rfl ?_
    refine x_cVv (as := [.int x2]) (rest := []) mi_X11_putOnTape vc_11 (lC_0 h) (x_at tdX11_feed 13 rfl) wm_X11_92 rfl (Nat.le_of_ble_eq_true rfl) rfl H (fun S2 H => ?_)
    refine x_aload_n (x_at tdX11_feed 14 rfl) rfl rfl ?_
    refine x_iload_n (x_at tdX11_feed 15 rfl) rfl rfl ?_
    refine x_cVv (as := [.int x3]) (rest := []) mi_X11_putOnTape vc_11 (lC_0 h) (x_at tdX11_feed 16 rfl) wm_X11_92 rfl (Nat.le_of_ble_eq_true rfl) rfl H (fun S3 H => ?_)
    refine x_aload_n (x_at tdX11_feed 17 rfl) rfl rfl ?_
    refine x_iload (x_at tdX11_feed 18 rfl) rfl ?_
    refine x_cVv (as := [.int x4]) (rest := []) mi_X11_putOnTape vc_11 (lC_0 h) (x_at tdX11_feed 19 rfl) wm_X11_92 rfl (Nat.le_of_ble_eq_true rfl) rfl H (fun S4 H => ?_)
    refine x_aload_n (x_at tdX11_feed 20 rfl) rfl rfl ?_
    refine x_iload (x_at tdX11_feed 21 rfl) rfl ?_
    refine x_cVv (as := [.int x5]) (rest := []) mi_X11_putOnTape vc_11 (lC_0 h) (x_at tdX11_feed 22 rfl) wm_X11_92 rfl (Nat.le_of_ble_eq_true rfl) rfl H (fun S5 H => ?_)
    refine x_aload_n (x_at tdX11_feed 23 rfl) rfl rfl ?_
    refine gfC_0_1 (x_at tdX11_feed 24 rfl) wf_X11_89 ?_
    exact x_ireturn (ty := .int) rfl rfl (x_at tdX11_feed 25 rfl) ⟨_, rfl, H⟩
  · have H := H.2 c
    refine x_iconst (x_at tdX11_feed 6 rfl) k_c_m1 ?_
    exact x_ireturn (ty := .int) rfl rfl (x_at tdX11_feed 7 rfl) ⟨_, rfl, H⟩
theorem e_O_end {h : xH} {d : Nat} {x1 : Int32} {S : xSt} {K : Int32 → xSt → Prop}  (H : ((x1 < 0 → K (-1) S) ∧ (¬ x1 < 0 → ((x1 ≤ (S.1 0 1) → K x1 (x_putI S 0 1 x1)) ∧ (¬ x1 ≤ (S.1 0 1) → K (-1) S))))) : M_O_end h d x1 S K := by
  refine x_enter pn_X11 (Nat.le_of_ble_eq_true rfl) ?_
  show X (gC h) _ _ 0 [(0, .ref (x_ad (gC h) 0)), (1, .int x1)] [] S _
  refine x_iload_n (x_at tdX11_end 0 rfl) rfl rfl ?_
  refine x_if_lt 12 (x_at tdX11_end 1 rfl) rfl (fun c => ?_) (fun c => ?_)
  · have H := H.1 c
    refine x_iconst (x_at tdX11_end 6 rfl) k_c_m1 ?_
    exact x_ireturn (ty := .int) rfl rfl (x_at tdX11_end 7 rfl) ⟨_, rfl, H⟩
  · have H := H.2 c
    refine x_iload_n (x_at tdX11_end 2 rfl) rfl rfl ?_
    refine x_aload_n (x_at tdX11_end 3 rfl) rfl rfl ?_
    refine gfC_0_1 (x_at tdX11_end 4 rfl) wf_X11_89 ?_
    refine x_ic_le 14 (x_at tdX11_end 5 rfl) rfl (fun c => ?_) (fun c => ?_)
    · have H := H.1 c
      refine x_aload_n (x_at tdX11_end 8 rfl) rfl rfl ?_
      refine x_iload_n (x_at tdX11_end 9 rfl) rfl rfl ?_
      refine pfC_0_1 (x_at tdX11_end 10 rfl) wf_X11_89 ?_
      refine x_iload_n (x_at tdX11_end 11 rfl) rfl rfl ?_
      exact x_ireturn (ty := .int) rfl rfl (x_at tdX11_end 12 rfl) ⟨_, rfl, H⟩
    · have H := H.2 c
      refine x_iconst (x_at tdX11_end 6 rfl) k_c_m1 ?_
      exact x_ireturn (ty := .int) rfl rfl (x_at tdX11_end 7 rfl) ⟨_, rfl, H⟩
theorem e_Co_sewAllAsTold {h : xH} {d : Nat}  {S : xSt} {K : xSt → Prop}  (H : B_Co_sewAllAsTold_2 h d 0 S K) : M_Co_sewAllAsTold h d S K := by
  refine x_enter pn_X0 (Nat.le_of_ble_eq_true rfl) ?_
  show X (gC h) _ _ 0 [(0, .ref (x_ad (gC h) 41))] [] S _
  refine x_iconst (x_at tdX0_sewAllAsTold 0 rfl) k_c_0 ?_
  refine x_istore_n (x_at tdX0_sewAllAsTold 1 rfl) rfl (by decide) ?_
  refine x_weak (lv' := [(0, .ref (x_ad (gC h) 41)), (1, .int 0)]) ⟨rfl, rfl, trivial⟩ ?_
  exact H
theorem b_Co_sewAllAsTold_2 {h : xH} {d : Nat}  {x1 : Int32} {S : xSt} {K : xSt → Prop}  (H : ((10 ≤ x1 → K (x_putI (x_putI (x_putI S 42 20 0) 42 21 (S.1 2 19)) 42 22 0)) ∧ (¬ 10 ≤ x1 → (vp_in x1 23 ∧ (vp_in x1 10 ∧ (vp_in ((10 : Int32) + x1) 23 ∧ B_Co_sewAllAsTold_2 h d (x1 + 1) (x_putI (x_putI S 42 (x1 : Int32).toNatClampNeg 0) 42 (((10 : Int32) + x1) : Int32).toNatClampNeg (S.1 12 (x1 : Int32).toNatClampNeg)) K)))))) : B_Co_sewAllAsTold_2 h d x1 S K := by
  unfold B_Co_sewAllAsTold_2
  refine x_iload_n (x_at tdX0_sewAllAsTold 2 rfl) rfl rfl ?_
  refine x_bipush (x_at tdX0_sewAllAsTold 3 rfl) k_b_10 ?_
  refine x_ic_ge 39 (x_at tdX0_sewAllAsTold 4 rfl) rfl (fun c => ?_) (fun c => ?_)
  · have H := H.1 c
    refine x_aload_n (x_at tdX0_sewAllAsTold 23 rfl) rfl rfl ?_
    refine gfC_41_1 (x_at tdX0_sewAllAsTold 24 rfl) wf_X0_11 ?_
    refine x_bipush (x_at tdX0_sewAllAsTold 25 rfl) k_b_20 ?_
    refine x_iconst (x_at tdX0_sewAllAsTold 26 rfl) k_c_0 ?_
    refine x_iast (lC_42 h) (x_at tdX0_sewAllAsTold 27 rfl) vi_20_23 ?_
    refine x_aload_n (x_at tdX0_sewAllAsTold 28 rfl) rfl rfl ?_
    refine gfC_41_1 (x_at tdX0_sewAllAsTold 29 rfl) wf_X0_11 ?_
    refine x_bipush (x_at tdX0_sewAllAsTold 30 rfl) k_b_21 ?_
    refine x_aload_n (x_at tdX0_sewAllAsTold 31 rfl) rfl rfl ?_
    refine gfC_41_0 (x_at tdX0_sewAllAsTold 32 rfl) wf_X0_15 ?_
    refine gfC_2_19 (x_at tdX0_sewAllAsTold 33 rfl) wf_X0_24 ?_
    refine x_top (v := (S.1 2 19)) rfl ?_
    refine x_iast (lC_42 h) (x_at tdX0_sewAllAsTold 34 rfl) vi_21_23 ?_
    refine x_aload_n (x_at tdX0_sewAllAsTold 35 rfl) rfl rfl ?_
    refine gfC_41_1 (x_at tdX0_sewAllAsTold 36 rfl) wf_X0_11 ?_
    refine x_bipush (x_at tdX0_sewAllAsTold 37 rfl) k_b_22 ?_
    refine x_iconst (x_at tdX0_sewAllAsTold 38 rfl) k_c_0 ?_
    refine x_iast (lC_42 h) (x_at tdX0_sewAllAsTold 39 rfl) vi_22_23 ?_
    exact x_return rfl (x_at tdX0_sewAllAsTold 40 rfl) ⟨rfl, H⟩
  · have H := H.2 c
    refine x_aload_n (x_at tdX0_sewAllAsTold 5 rfl) rfl rfl ?_
    refine gfC_41_1 (x_at tdX0_sewAllAsTold 6 rfl) wf_X0_11 ?_
    refine x_iload_n (x_at tdX0_sewAllAsTold 7 rfl) rfl rfl ?_
    refine x_iconst (x_at tdX0_sewAllAsTold 8 rfl) k_c_0 ?_
    refine x_iast (lC_42 h) (x_at tdX0_sewAllAsTold 9 rfl) H.1 ?_
    have H := H.2
    refine x_aload_n (x_at tdX0_sewAllAsTold 10 rfl) rfl rfl ?_
    refine gfC_41_1 (x_at tdX0_sewAllAsTold 11 rfl) wf_X0_11 ?_
    refine x_bipush (x_at tdX0_sewAllAsTold 12 rfl) k_b_10 ?_
    refine x_iload_n (x_at tdX0_sewAllAsTold 13 rfl) rfl rfl ?_
    refine x_iadd (x_at tdX0_sewAllAsTold 14 rfl) ?_
    refine x_aload_n (x_at tdX0_sewAllAsTold 15 rfl) rfl rfl ?_
    refine gfC_41_0 (x_at tdX0_sewAllAsTold 16 rfl) wf_X0_15 ?_
    refine gfC_2_12 (x_at tdX0_sewAllAsTold 17 rfl) wf_X0_19 ?_
    refine x_iload_n (x_at tdX0_sewAllAsTold 18 rfl) rfl rfl ?_
    refine x_iald (lC_12 h) (x_at tdX0_sewAllAsTold 19 rfl) H.1 ?_
    have H := H.2
    refine x_top (v := (S.1 12 (x1 : Int32).toNatClampNeg)) rfl ?_
    refine x_iast (lC_42 h) (x_at tdX0_sewAllAsTold 20 rfl) H.1 ?_
    have H := H.2
    refine x_iinc (x_at tdX0_sewAllAsTold 21 rfl) rfl (k_inc_1 _) (by decide) ?_
    refine x_goto 2 (x_at tdX0_sewAllAsTold 22 rfl) rfl ?_
    refine x_weak (lv' := [(0, .ref (x_ad (gC h) 41)), (1, .int (x1 + 1))]) ⟨rfl, rfl, trivial⟩ ?_
    exact H
theorem e_Hi_emptyBoxes {h : xH} {d : Nat}  {S : xSt} {K : xSt → Prop}  (H : K (x_putI S 43 3 0)) : M_Hi_emptyBoxes h d S K := by
  refine x_enter pn_X2 (Nat.le_of_ble_eq_true rfl) ?_
  show X (gC h) _ _ 0 [(0, .ref (x_ad (gC h) 43))] [] S _
  refine x_aload_n (x_at tdX2_emptyBoxes 0 rfl) rfl rfl ?_
  refine x_iconst (x_at tdX2_emptyBoxes 1 rfl) k_c_0 ?_
  refine pfC_43_3 (x_at tdX2_emptyBoxes 2 rfl) wf_X2_46 ?_
  exact x_return rfl (x_at tdX2_emptyBoxes 3 rfl) ⟨rfl, H⟩
theorem e_Hi_writeRow {h : xH} {d : Nat}  {S : xSt} {K : xSt → Prop}  (H : (((¬ (0 : Int32) < 0 ∧ ¬ ((S.1 43 4) * (23 : Int32)) < 0 ∧ ¬ (23 : Int32) < 0) ∧ 0 + 23 ≤ 23 ∧ (((S.1 43 4) * (23 : Int32)) : Int32).toNatClampNeg + 23 ≤ 943) ∧ K (x_putA S 44 (va_cpy (S.1 42) (S.1 44) 0 (((S.1 43 4) * (23 : Int32)) : Int32).toNatClampNeg 23)))) : M_Hi_writeRow h d S K := by
  refine x_enter pn_X2 (Nat.le_of_ble_eq_true rfl) ?_
  show X (gC h) _ _ 0 [(0, .ref (x_ad (gC h) 43))] [] S _
  refine x_aload_n (x_at tdX2_writeRow 0 rfl) rfl rfl ?_
  refine gfC_43_0 (x_at tdX2_writeRow 1 rfl) wf_X2_20 ?_
  refine gfC_41_1 (x_at tdX2_writeRow 2 rfl) wf_X2_43 ?_
  refine x_iconst (x_at tdX2_writeRow 3 rfl) k_c_0 ?_
  refine x_aload_n (x_at tdX2_writeRow 4 rfl) rfl rfl ?_
  refine gfC_43_1 (x_at tdX2_writeRow 5 rfl) wf_X2_11 ?_
  refine x_aload_n (x_at tdX2_writeRow 6 rfl) rfl rfl ?_
  refine gfC_43_4 (x_at tdX2_writeRow 7 rfl) wf_X2_24 ?_
  refine x_bipush (x_at tdX2_writeRow 8 rfl) k_b_23 ?_
  refine x_imul (x_at tdX2_writeRow 9 rfl) ?_
  refine x_bipush (x_at tdX2_writeRow 10 rfl) k_b_23 ?_
  refine x_copyI (lC_42 h) (lC_44 h) wm_X2_34 wn_arraycopy ws_arraycopy wi_J10 (x_at tdX2_writeRow 11 rfl) (Nat.le_of_ble_eq_true rfl) H.1 ?_
  have H := H.2
  exact x_return rfl (x_at tdX2_writeRow 12 rfl) ⟨rfl, H⟩
theorem e_Hi_forgetActs {h : xH} {d : Nat}  {S : xSt} {K : xSt → Prop}  (H : M_Hi_writeRow h d (x_putI (x_putI S 43 4 0) 43 5 0) (fun (S1 : xSt) => K S1)) : M_Hi_forgetActs h d S K := by
  refine x_enter pn_X2 (Nat.le_of_ble_eq_true rfl) ?_
  show X (gC h) _ _ 0 [(0, .ref (x_ad (gC h) 43))] [] S _
  refine x_aload_n (x_at tdX2_forgetActs 0 rfl) rfl rfl ?_
  refine x_iconst (x_at tdX2_forgetActs 1 rfl) k_c_0 ?_
  refine pfC_43_4 (x_at tdX2_forgetActs 2 rfl) wf_X2_24 ?_
  refine x_aload_n (x_at tdX2_forgetActs 3 rfl) rfl rfl ?_
  refine x_iconst (x_at tdX2_forgetActs 4 rfl) k_c_0 ?_
  refine pfC_43_5 (x_at tdX2_forgetActs 5 rfl) wf_X2_28 ?_
  refine x_aload_n (x_at tdX2_forgetActs 6 rfl) rfl rfl ?_
  refine x_cVv (as := []) (rest := []) mi_X2_writeRow vc_2 (lC_43 h) (x_at tdX2_forgetActs 7 rfl) wm_X2_31 rfl (Nat.le_of_ble_eq_true rfl) rfl H (fun S1 H => ?_)
  exact x_return rfl (x_at tdX2_forgetActs 8 rfl) ⟨rfl, H⟩
theorem e_Tk_takeDigits {h : xH} {d : Nat}  {S : xSt} {K : xSt → Prop}  (H : B_Tk_takeDigits_5 h d (x_putI S 19 5 0) K) : M_Tk_takeDigits h d S K := by
  refine x_enter pn_X7 (Nat.le_of_ble_eq_true rfl) ?_
  show X (gC h) _ _ 0 [(0, .ref (x_ad (gC h) 19))] [] S _
  refine x_aload_n (x_at tdX7_takeDigits 0 rfl) rfl rfl ?_
  refine x_iconst (x_at tdX7_takeDigits 1 rfl) k_c_0 ?_
  refine pfC_19_5 (x_at tdX7_takeDigits 2 rfl) wf_X7_54 ?_
  refine x_weak (lv' := [(0, .ref (x_ad (gC h) 19))]) ⟨rfl, trivial⟩ ?_
  exact H
theorem b_Tk_takeDigits_5 {h : xH} {d : Nat}   {S : xSt} {K : xSt → Prop}  (H : (((S.1 19 1) ≤ (S.1 19 2) → B_Tk_takeDigits_81 h d S K) ∧ (¬ (S.1 19 1) ≤ (S.1 19 2) → ((S.2.2 19) = 1 ∧ (vp_in (S.1 19 2) 1600 ∧ (((S.1 1 ((S.1 19 2) : Int32).toNatClampNeg) < 48 → B_Tk_takeDigits_81 h d S K) ∧ (¬ (S.1 1 ((S.1 19 2) : Int32).toNatClampNeg) < 48 → ((S.2.2 19) = 1 ∧ (vp_in (S.1 19 2) 1600 ∧ ((57 < (S.1 1 ((S.1 19 2) : Int32).toNatClampNeg) → B_Tk_takeDigits_81 h d S K) ∧ (¬ 57 < (S.1 1 ((S.1 19 2) : Int32).toNatClampNeg) → ((S.2.2 19) = 1 ∧ (vp_in (S.1 19 2) 1600 ∧ B_Tk_takeDigits_5 h d (x_putI (x_putI S 19 5 (((S.1 19 5) * (10 : Int32)) + ((S.1 1 ((S.1 19 2) : Int32).toNatClampNeg) - (48 : Int32)))) 19 2 ((S.1 19 2) + (1 : Int32))) K))))))))))))) : B_Tk_takeDigits_5 h d S K := by
  unfold B_Tk_takeDigits_5
  refine x_aload_n (x_at tdX7_takeDigits 3 rfl) rfl rfl ?_
  refine gfC_19_2 (x_at tdX7_takeDigits 4 rfl) wf_X7_25 ?_
  refine x_aload_n (x_at tdX7_takeDigits 5 rfl) rfl rfl ?_
  refine gfC_19_1 (x_at tdX7_takeDigits 6 rfl) wf_X7_21 ?_
  refine x_ic_ge 81 (x_at tdX7_takeDigits 7 rfl) rfl (fun c => ?_) (fun c => ?_)
  · have H := H.1 c
    refine x_weak (lv' := [(0, .ref (x_ad (gC h) 19))]) ⟨rfl, trivial⟩ ?_
    exact H
  · have H := H.2 c
    refine x_aload_n (x_at tdX7_takeDigits 8 rfl) rfl rfl ?_
    refine gfC_19_0 (r := 1) (x_at tdX7_takeDigits 9 rfl) wf_X7_9 H.1 ?_
    have H := H.2
    refine x_aload_n (x_at tdX7_takeDigits 10 rfl) rfl rfl ?_
    refine gfC_19_2 (x_at tdX7_takeDigits 11 rfl) wf_X7_25 ?_
    refine x_bald (lC_1 h) (x_at tdX7_takeDigits 12 rfl) H.1 ?_
    have H := H.2
    refine x_bipush (x_at tdX7_takeDigits 13 rfl) k_b_48 ?_
    refine x_ic_lt 81 (x_at tdX7_takeDigits 14 rfl) rfl (fun c => ?_) (fun c => ?_)
    · have H := H.1 c
      refine x_weak (lv' := [(0, .ref (x_ad (gC h) 19))]) ⟨rfl, trivial⟩ ?_
      exact H
    · have H := H.2 c
      refine x_aload_n (x_at tdX7_takeDigits 15 rfl) rfl rfl ?_
      refine gfC_19_0 (r := 1) (x_at tdX7_takeDigits 16 rfl) wf_X7_9 H.1 ?_
      have H := H.2
      refine x_aload_n (x_at tdX7_takeDigits 17 rfl) rfl rfl ?_
      refine gfC_19_2 (x_at tdX7_takeDigits 18 rfl) wf_X7_25 ?_
      refine x_bald (lC_1 h) (x_at tdX7_takeDigits 19 rfl) H.1 ?_
      have H := H.2
      refine x_bipush (x_at tdX7_takeDigits 20 rfl) k_b_57 ?_
      refine x_ic_gt 81 (x_at tdX7_takeDigits 21 rfl) rfl (fun c => ?_) (fun c => ?_)
      · have H := H.1 c
        refine x_weak (lv' := [(0, .ref (x_ad (gC h) 19))]) ⟨rfl, trivial⟩ ?_
        exact H
      · have H := H.2 c
        refine x_aload_n (x_at tdX7_takeDigits 22 rfl) rfl rfl ?_
        refine x_aload_n (x_at tdX7_takeDigits 23 rfl) rfl rfl ?_
        refine gfC_19_5 (x_at tdX7_takeDigits 24 rfl) wf_X7_54 ?_
        refine x_bipush (x_at tdX7_takeDigits 25 rfl) k_b_10 ?_
        refine x_imul (x_at tdX7_takeDigits 26 rfl) ?_
        refine x_aload_n (x_at tdX7_takeDigits 27 rfl) rfl rfl ?_
        refine gfC_19_0 (r := 1) (x_at tdX7_takeDigits 28 rfl) wf_X7_9 H.1 ?_
        have H := H.2
        refine x_aload_n (x_at tdX7_takeDigits 29 rfl) rfl rfl ?_
        refine gfC_19_2 (x_at tdX7_takeDigits 30 rfl) wf_X7_25 ?_
        refine x_bald (lC_1 h) (x_at tdX7_takeDigits 31 rfl) H.1 ?_
        have H := H.2
        refine x_bipush (x_at tdX7_takeDigits 32 rfl) k_b_48 ?_
        refine x_isub (x_at tdX7_takeDigits 33 rfl) ?_
        refine x_iadd (x_at tdX7_takeDigits 34 rfl) ?_
        refine pfC_19_5 (x_at tdX7_takeDigits 35 rfl) wf_X7_54 ?_
        refine x_aload_n (x_at tdX7_takeDigits 36 rfl) rfl rfl ?_
        refine x_dup (x_at tdX7_takeDigits 37 rfl) rfl ?_
        refine gfC_19_2 (x_at tdX7_takeDigits 38 rfl) wf_X7_25 ?_
        refine x_top (v := (S.1 19 2)) rfl ?_
        refine x_iconst (x_at tdX7_takeDigits 39 rfl) k_c_1 ?_
        refine x_iadd (x_at tdX7_takeDigits 40 rfl) ?_
        refine pfC_19_2 (x_at tdX7_takeDigits 41 rfl) wf_X7_25 ?_
        refine x_goto 5 (x_at tdX7_takeDigits 42 rfl) rfl ?_
        refine x_weak (lv' := [(0, .ref (x_ad (gC h) 19))]) ⟨rfl, trivial⟩ ?_
        exact H
theorem b_Tk_takeDigits_81 {h : xH} {d : Nat}   {S : xSt} {K : xSt → Prop}  (H : (((S.1 19 1) ≤ (S.1 19 2) → B_Tk_takeDigits_124 h d S K) ∧ (¬ (S.1 19 1) ≤ (S.1 19 2) → ((S.2.2 19) = 1 ∧ (vp_in (S.1 19 2) 1600 ∧ (((S.1 1 ((S.1 19 2) : Int32).toNatClampNeg) < 97 → B_Tk_takeDigits_124 h d S K) ∧ (¬ (S.1 1 ((S.1 19 2) : Int32).toNatClampNeg) < 97 → ((S.2.2 19) = 1 ∧ (vp_in (S.1 19 2) 1600 ∧ ((122 < (S.1 1 ((S.1 19 2) : Int32).toNatClampNeg) → B_Tk_takeDigits_124 h d S K) ∧ (¬ 122 < (S.1 1 ((S.1 19 2) : Int32).toNatClampNeg) → B_Tk_takeDigits_125 h d 1 S K))))))))))) : B_Tk_takeDigits_81 h d S K := by
  unfold B_Tk_takeDigits_81
  refine x_aload_n (x_at tdX7_takeDigits 43 rfl) rfl rfl ?_
  refine gfC_19_2 (x_at tdX7_takeDigits 44 rfl) wf_X7_25 ?_
  refine x_aload_n (x_at tdX7_takeDigits 45 rfl) rfl rfl ?_
  refine gfC_19_1 (x_at tdX7_takeDigits 46 rfl) wf_X7_21 ?_
  refine x_ic_ge 124 (x_at tdX7_takeDigits 47 rfl) rfl (fun c => ?_) (fun c => ?_)
  · have H := H.1 c
    refine x_weak (lv' := [(0, .ref (x_ad (gC h) 19))]) ⟨rfl, trivial⟩ ?_
    exact H
  · have H := H.2 c
    refine x_aload_n (x_at tdX7_takeDigits 48 rfl) rfl rfl ?_
    refine gfC_19_0 (r := 1) (x_at tdX7_takeDigits 49 rfl) wf_X7_9 H.1 ?_
    have H := H.2
    refine x_aload_n (x_at tdX7_takeDigits 50 rfl) rfl rfl ?_
    refine gfC_19_2 (x_at tdX7_takeDigits 51 rfl) wf_X7_25 ?_
    refine x_bald (lC_1 h) (x_at tdX7_takeDigits 52 rfl) H.1 ?_
    have H := H.2
    refine x_bipush (x_at tdX7_takeDigits 53 rfl) k_b_97 ?_
    refine x_ic_lt 124 (x_at tdX7_takeDigits 54 rfl) rfl (fun c => ?_) (fun c => ?_)
    · have H := H.1 c
      refine x_weak (lv' := [(0, .ref (x_ad (gC h) 19))]) ⟨rfl, trivial⟩ ?_
      exact H
    · have H := H.2 c
      refine x_aload_n (x_at tdX7_takeDigits 55 rfl) rfl rfl ?_
      refine gfC_19_0 (r := 1) (x_at tdX7_takeDigits 56 rfl) wf_X7_9 H.1 ?_
      have H := H.2
      refine x_aload_n (x_at tdX7_takeDigits 57 rfl) rfl rfl ?_
      refine gfC_19_2 (x_at tdX7_takeDigits 58 rfl) wf_X7_25 ?_
      refine x_bald (lC_1 h) (x_at tdX7_takeDigits 59 rfl) H.1 ?_
      have H := H.2
      refine x_bipush (x_at tdX7_takeDigits 60 rfl) k_b_122 ?_
      refine x_ic_gt 124 (x_at tdX7_takeDigits 61 rfl) rfl (fun c => ?_) (fun c => ?_)
      · have H := H.1 c
        refine x_weak (lv' := [(0, .ref (x_ad (gC h) 19))]) ⟨rfl, trivial⟩ ?_
        exact H
      · have H := H.2 c
        refine x_iconst (x_at tdX7_takeDigits 62 rfl) k_c_1 ?_
        refine x_goto 125 (x_at tdX7_takeDigits 63 rfl) rfl ?_
        refine x_weak (lv' := [(0, .ref (x_ad (gC h) 19))]) ⟨rfl, trivial⟩ ?_
        exact H
theorem b_Tk_takeDigits_124 {h : xH} {d : Nat}   {S : xSt} {K : xSt → Prop}  (H : B_Tk_takeDigits_125 h d 0 S K) : B_Tk_takeDigits_124 h d S K := by
  unfold B_Tk_takeDigits_124
  refine x_iconst (x_at tdX7_takeDigits 64 rfl) k_c_0 ?_
  refine x_weak (lv' := [(0, .ref (x_ad (gC h) 19))]) ⟨rfl, trivial⟩ ?_
  exact H
theorem b_Tk_takeDigits_125 {h : xH} {d : Nat}  {s0 : Int32} {S : xSt} {K : xSt → Prop}  (H : ((4 < ((S.1 19 2) - (S.1 19 3)) → K (x_putI S 19 4 1)) ∧ (¬ 4 < ((S.1 19 2) - (S.1 19 3)) → ((s0 = 0 → K (x_putI S 19 4 4)) ∧ (¬ s0 = 0 → K (x_putI S 19 4 1)))))) : B_Tk_takeDigits_125 h d s0 S K := by
  unfold B_Tk_takeDigits_125
  refine x_istore_n (x_at tdX7_takeDigits 65 rfl) rfl (by decide) ?_
  refine x_aload_n (x_at tdX7_takeDigits 66 rfl) rfl rfl ?_
  refine x_aload_n (x_at tdX7_takeDigits 67 rfl) rfl rfl ?_
  refine gfC_19_2 (x_at tdX7_takeDigits 68 rfl) wf_X7_25 ?_
  refine x_aload_n (x_at tdX7_takeDigits 69 rfl) rfl rfl ?_
  refine gfC_19_3 (x_at tdX7_takeDigits 70 rfl) wf_X7_37 ?_
  refine x_isub (x_at tdX7_takeDigits 71 rfl) ?_
  refine x_iconst (x_at tdX7_takeDigits 72 rfl) k_c_4 ?_
  refine x_ic_gt 144 (x_at tdX7_takeDigits 73 rfl) rfl (fun c => ?_) (fun c => ?_)
  · have H := H.1 c
    refine x_iconst (x_at tdX7_takeDigits 76 rfl) k_c_1 ?_
    refine x_goto 149 (x_at tdX7_takeDigits 77 rfl) rfl ?_
    refine pfC_19_4 (x_at tdX7_takeDigits 79 rfl) wf_X7_40 ?_
    exact x_return rfl (x_at tdX7_takeDigits 80 rfl) ⟨rfl, H⟩
  · have H := H.2 c
    refine x_iload_n (x_at tdX7_takeDigits 74 rfl) rfl rfl ?_
    refine x_if_eq 148 (x_at tdX7_takeDigits 75 rfl) rfl (fun c => ?_) (fun c => ?_)
    · have H := H.1 c
      refine x_iconst (x_at tdX7_takeDigits 78 rfl) k_c_4 ?_
      refine pfC_19_4 (x_at tdX7_takeDigits 79 rfl) wf_X7_40 ?_
      exact x_return rfl (x_at tdX7_takeDigits 80 rfl) ⟨rfl, H⟩
    · have H := H.2 c
      refine x_iconst (x_at tdX7_takeDigits 76 rfl) k_c_1 ?_
      refine x_goto 149 (x_at tdX7_takeDigits 77 rfl) rfl ?_
      refine pfC_19_4 (x_at tdX7_takeDigits 79 rfl) wf_X7_40 ?_
      exact x_return rfl (x_at tdX7_takeDigits 80 rfl) ⟨rfl, H⟩
theorem e_Tk_takeLetters {h : xH} {d : Nat}  {S : xSt} {K : xSt → Prop}  (H : B_Tk_takeLetters_5 h d (x_putL S 19 6 0) K) : M_Tk_takeLetters h d S K := by
  refine x_enter pn_X7 (Nat.le_of_ble_eq_true rfl) ?_
  show X (gC h) _ _ 0 [(0, .ref (x_ad (gC h) 19))] [] S _
  refine x_aload_n (x_at tdX7_takeLetters 0 rfl) rfl rfl ?_
  refine x_lconst (v := 0) (x_at tdX7_takeLetters 1 rfl) rfl ?_
  refine pfC_19_6 (x_at tdX7_takeLetters 2 rfl) wf_X7_46 ?_
  refine x_weak (lv' := [(0, .ref (x_ad (gC h) 19))]) ⟨rfl, trivial⟩ ?_
  exact H
theorem b_Tk_takeLetters_5 {h : xH} {d : Nat}   {S : xSt} {K : xSt → Prop}  (H : (((S.1 19 1) ≤ (S.1 19 2) → B_Tk_takeLetters_85 h d S K) ∧ (¬ (S.1 19 1) ≤ (S.1 19 2) → ((S.2.2 19) = 1 ∧ (vp_in (S.1 19 2) 1600 ∧ (((S.1 1 ((S.1 19 2) : Int32).toNatClampNeg) < 97 → B_Tk_takeLetters_85 h d S K) ∧ (¬ (S.1 1 ((S.1 19 2) : Int32).toNatClampNeg) < 97 → ((S.2.2 19) = 1 ∧ (vp_in (S.1 19 2) 1600 ∧ ((122 < (S.1 1 ((S.1 19 2) : Int32).toNatClampNeg) → B_Tk_takeLetters_85 h d S K) ∧ (¬ 122 < (S.1 1 ((S.1 19 2) : Int32).toNatClampNeg) → ((S.2.2 19) = 1 ∧ (vp_in (S.1 19 2) 1600 ∧ B_Tk_takeLetters_5 h d (x_putI (x_putL S 19 6 (((S.2.1 19 6) * (32 : Int64)) + ((((S.1 1 ((S.1 19 2) : Int32).toNatClampNeg) - (97 : Int32)) + (1 : Int32)) : Int32).toInt64)) 19 2 ((S.1 19 2) + (1 : Int32))) K))))))))))))) : B_Tk_takeLetters_5 h d S K := by
  unfold B_Tk_takeLetters_5
  refine x_aload_n (x_at tdX7_takeLetters 3 rfl) rfl rfl ?_
  refine gfC_19_2 (x_at tdX7_takeLetters 4 rfl) wf_X7_25 ?_
  refine x_aload_n (x_at tdX7_takeLetters 5 rfl) rfl rfl ?_
  refine gfC_19_1 (x_at tdX7_takeLetters 6 rfl) wf_X7_21 ?_
  refine x_ic_ge 85 (x_at tdX7_takeLetters 7 rfl) rfl (fun c => ?_) (fun c => ?_)
  · have H := H.1 c
    refine x_weak (lv' := [(0, .ref (x_ad (gC h) 19))]) ⟨rfl, trivial⟩ ?_
    exact H
  · have H := H.2 c
    refine x_aload_n (x_at tdX7_takeLetters 8 rfl) rfl rfl ?_
    refine gfC_19_0 (r := 1) (x_at tdX7_takeLetters 9 rfl) wf_X7_9 H.1 ?_
    have H := H.2
    refine x_aload_n (x_at tdX7_takeLetters 10 rfl) rfl rfl ?_
    refine gfC_19_2 (x_at tdX7_takeLetters 11 rfl) wf_X7_25 ?_
    refine x_bald (lC_1 h) (x_at tdX7_takeLetters 12 rfl) H.1 ?_
    have H := H.2
    refine x_bipush (x_at tdX7_takeLetters 13 rfl) k_b_97 ?_
    refine x_ic_lt 85 (x_at tdX7_takeLetters 14 rfl) rfl (fun c => ?_) (fun c => ?_)
    · have H := H.1 c
      refine x_weak (lv' := [(0, .ref (x_ad (gC h) 19))]) ⟨rfl, trivial⟩ ?_
      exact H
    · have H := H.2 c
      refine x_aload_n (x_at tdX7_takeLetters 15 rfl) rfl rfl ?_
      refine gfC_19_0 (r := 1) (x_at tdX7_takeLetters 16 rfl) wf_X7_9 H.1 ?_
      have H := H.2
      refine x_aload_n (x_at tdX7_takeLetters 17 rfl) rfl rfl ?_
      refine gfC_19_2 (x_at tdX7_takeLetters 18 rfl) wf_X7_25 ?_
      refine x_bald (lC_1 h) (x_at tdX7_takeLetters 19 rfl) H.1 ?_
      have H := H.2
      refine x_bipush (x_at tdX7_takeLetters 20 rfl) k_b_122 ?_
      refine x_ic_gt 85 (x_at tdX7_takeLetters 21 rfl) rfl (fun c => ?_) (fun c => ?_)
      · have H := H.1 c
        refine x_weak (lv' := [(0, .ref (x_ad (gC h) 19))]) ⟨rfl, trivial⟩ ?_
        exact H
      · have H := H.2 c
        refine x_aload_n (x_at tdX7_takeLetters 22 rfl) rfl rfl ?_
        refine x_aload_n (x_at tdX7_takeLetters 23 rfl) rfl rfl ?_
        refine gfC_19_6 (x_at tdX7_takeLetters 24 rfl) wf_X7_46 ?_
        refine x_ldc2 (x_at tdX7_takeLetters 25 rfl) wk_X7_68 ?_
        refine x_lmul (x_at tdX7_takeLetters 26 rfl) ?_
        refine x_aload_n (x_at tdX7_takeLetters 27 rfl) rfl rfl ?_
        refine gfC_19_0 (r := 1) (x_at tdX7_takeLetters 28 rfl) wf_X7_9 H.1 ?_
        have H := H.2
        refine x_aload_n (x_at tdX7_takeLetters 29 rfl) rfl rfl ?_
        refine gfC_19_2 (x_at tdX7_takeLetters 30 rfl) wf_X7_25 ?_
        refine x_bald (lC_1 h) (x_at tdX7_takeLetters 31 rfl) H.1 ?_
        have H := H.2
        refine x_bipush (x_at tdX7_takeLetters 32 rfl) k_b_97 ?_
        refine x_isub (x_at tdX7_takeLetters 33 rfl) ?_
        refine x_iconst (x_at tdX7_takeLetters 34 rfl) k_c_1 ?_
        refine x_iadd (x_at tdX7_takeLetters 35 rfl) ?_
        refine x_i2l (x_at tdX7_takeLetters 36 rfl) ?_
        refine x_ladd (x_at tdX7_takeLetters 37 rfl) ?_
        refine pfC_19_6 (x_at tdX7_takeLetters 38 rfl) wf_X7_46 ?_
        refine x_aload_n (x_at tdX7_takeLetters 39 rfl) rfl rfl ?_
        refine x_dup (x_at tdX7_takeLetters 40 rfl) rfl ?_
        refine gfC_19_2 (x_at tdX7_takeLetters 41 rfl) wf_X7_25 ?_
        refine x_top (v := (S.1 19 2)) rfl ?_
        refine x_iconst (x_at tdX7_takeLetters 42 rfl) k_c_1 ?_
        refine x_iadd (x_at tdX7_takeLetters 43 rfl) ?_
        refine pfC_19_2 (x_at tdX7_takeLetters 44 rfl) wf_X7_25 ?_
        refine x_goto 5 (x_at tdX7_takeLetters 45 rfl) rfl ?_
        refine x_weak (lv' := [(0, .ref (x_ad (gC h) 19))]) ⟨rfl, trivial⟩ ?_
        exact H
theorem b_Tk_takeLetters_85 {h : xH} {d : Nat}   {S : xSt} {K : xSt → Prop}  (H : ((((S.1 19 2) - (S.1 19 3)) ≤ 8 → K (x_putI S 19 4 2)) ∧ (¬ ((S.1 19 2) - (S.1 19 3)) ≤ 8 → K (x_putI S 19 4 1)))) : B_Tk_takeLetters_85 h d S K := by
  unfold B_Tk_takeLetters_85
  refine x_aload_n (x_at tdX7_takeLetters 46 rfl) rfl rfl ?_
  refine x_aload_n (x_at tdX7_takeLetters 47 rfl) rfl rfl ?_
  refine gfC_19_2 (x_at tdX7_takeLetters 48 rfl) wf_X7_25 ?_
  refine x_aload_n (x_at tdX7_takeLetters 49 rfl) rfl rfl ?_
  refine gfC_19_3 (x_at tdX7_takeLetters 50 rfl) wf_X7_37 ?_
  refine x_isub (x_at tdX7_takeLetters 51 rfl) ?_
  refine x_bipush (x_at tdX7_takeLetters 52 rfl) k_b_8 ?_
  refine x_ic_le 104 (x_at tdX7_takeLetters 53 rfl) rfl (fun c => ?_) (fun c => ?_)
  · have H := H.1 c
    refine x_iconst (x_at tdX7_takeLetters 56 rfl) k_c_2 ?_
    refine pfC_19_4 (x_at tdX7_takeLetters 57 rfl) wf_X7_40 ?_
    exact x_return rfl (x_at tdX7_takeLetters 58 rfl) ⟨rfl, H⟩
  · have H := H.2 c
    refine x_iconst (x_at tdX7_takeLetters 54 rfl) k_c_1 ?_
    refine x_goto 105 (x_at tdX7_takeLetters 55 rfl) rfl ?_
    refine pfC_19_4 (x_at tdX7_takeLetters 57 rfl) wf_X7_40 ?_
    exact x_return rfl (x_at tdX7_takeLetters 58 rfl) ⟨rfl, H⟩
theorem e_Tk_wordNumber {h : xH} {d : Nat} {x0 : Int64} {S : xSt} {K : Int32 → xSt → Prop}  (H : B_Tk_wordNumber_7 h d x0 0 0 0 S K) : M_Tk_wordNumber h d x0 S K := by
  refine x_enter pn_X7 (Nat.le_of_ble_eq_true rfl) ?_
  show X (gC h) _ _ 0 [(0, .long x0)] [] S _
  refine x_iconst (x_at tdX7_wordNumber 0 rfl) k_c_0 ?_
  refine x_istore_n (x_at tdX7_wordNumber 1 rfl) rfl (by decide) ?_
  refine x_lconst (v := 0) (x_at tdX7_wordNumber 2 rfl) rfl ?_
  refine x_lstore_n (x_at tdX7_wordNumber 3 rfl) rfl (by decide) ?_
  refine x_iconst (x_at tdX7_wordNumber 4 rfl) k_c_0 ?_
  refine x_istore (x_at tdX7_wordNumber 5 rfl) (by decide) ?_
  refine x_weak (lv' := [(0, .long x0), (2, .int 0), (3, .long 0), (5, .int 0)]) ⟨rfl, rfl, rfl, rfl, trivial⟩ ?_
  exact H
theorem b_Tk_wordNumber_7 {h : xH} {d : Nat}  {x0 : Int64} {x2 : Int32} {x3 : Int64} {x5 : Int32} {S : xSt} {K : Int32 → xSt → Prop}  (H : ((zs_len0 ≤ x5 → K (-1) S) ∧ (¬ zs_len0 ≤ x5 → (vp_in x5 zs_n0 ∧ (((zs_char0 x5) = 32 → ((¬ x3 = x0 → B_Tk_wordNumber_64 h d x0 (x2 + 1) 0 x5 S K) ∧ (x3 = x0 → K x2 S))) ∧ (¬ (zs_char0 x5) = 32 → B_Tk_wordNumber_64 h d x0 x2 ((x3 * (32 : Int64)) + ((((zs_char0 x5) - (97 : Int32)) + (1 : Int32)) : Int32).toInt64) x5 S K)))))) : B_Tk_wordNumber_7 h d x0 x2 x3 x5 S K := by
  unfold B_Tk_wordNumber_7
  refine x_iload (x_at tdX7_wordNumber 6 rfl) rfl ?_
  refine z_ldc0 (x_at tdX7_wordNumber 7 rfl) rfl ?_
  refine z_len0 (x_at tdX7_wordNumber 8 rfl) wm_X7_72 (Nat.le_of_ble_eq_true rfl) ?_
  refine x_ic_ge 70 (x_at tdX7_wordNumber 9 rfl) rfl (fun c => ?_) (fun c => ?_)
  · have H := H.1 c
    refine x_iconst (x_at tdX7_wordNumber 40 rfl) k_c_m1 ?_
    exact x_ireturn (ty := .int) rfl rfl (x_at tdX7_wordNumber 41 rfl) ⟨_, rfl, H⟩
  · have H := H.2 c
    refine z_ldc0 (x_at tdX7_wordNumber 10 rfl) rfl ?_
    refine x_iload (x_at tdX7_wordNumber 11 rfl) rfl ?_
    refine z_charAt0 (x_at tdX7_wordNumber 12 rfl) wm_X7_75 (Nat.le_of_ble_eq_true rfl) H.1 ?_
    have H := H.2
    refine x_istore (x_at tdX7_wordNumber 13 rfl) (by decide) ?_
    refine x_iload (x_at tdX7_wordNumber 14 rfl) rfl ?_
    refine x_bipush (x_at tdX7_wordNumber 15 rfl) k_b_32 ?_
    refine x_ic_eq 51 (x_at tdX7_wordNumber 16 rfl) rfl (fun c => ?_) (fun c => ?_)
    · have H := H.1 c
      refine x_lload_n (x_at tdX7_wordNumber 29 rfl) rfl rfl ?_
      refine x_lload_n (x_at tdX7_wordNumber 30 rfl) rfl rfl ?_
      refine x_lc_ne 59 (x_at tdX7_wordNumber 31 rfl) (x_at tdX7_wordNumber 32 rfl) rfl (fun c => ?_) (fun c => ?_)
      · have H := H.1 c
        refine x_iinc (x_at tdX7_wordNumber 35 rfl) rfl (k_inc_1 _) (by decide) ?_
        refine x_lconst (v := 0) (x_at tdX7_wordNumber 36 rfl) rfl ?_
        refine x_lstore_n (x_at tdX7_wordNumber 37 rfl) rfl (by decide) ?_
        refine x_weak (lv' := [(0, .long x0), (2, .int (x2 + 1)), (3, .long 0), (5, .int x5)]) ⟨rfl, rfl, rfl, rfl, trivial⟩ ?_
        exact H
      · have H := H.2 c
        refine x_iload_n (x_at tdX7_wordNumber 33 rfl) rfl rfl ?_
        exact x_ireturn (ty := .int) rfl rfl (x_at tdX7_wordNumber 34 rfl) ⟨_, rfl, H⟩
    · have H := H.2 c
      refine x_lload_n (x_at tdX7_wordNumber 17 rfl) rfl rfl ?_
      refine x_ldc2 (x_at tdX7_wordNumber 18 rfl) wk_X7_68 ?_
      refine x_lmul (x_at tdX7_wordNumber 19 rfl) ?_
      refine x_iload (x_at tdX7_wordNumber 20 rfl) rfl ?_
      refine x_bipush (x_at tdX7_wordNumber 21 rfl) k_b_97 ?_
      refine x_isub (x_at tdX7_wordNumber 22 rfl) ?_
      refine x_iconst (x_at tdX7_wordNumber 23 rfl) k_c_1 ?_
      refine x_iadd (x_at tdX7_wordNumber 24 rfl) ?_
      refine x_i2l (x_at tdX7_wordNumber 25 rfl) ?_
      refine x_ladd (x_at tdX7_wordNumber 26 rfl) ?_
      refine x_lstore_n (x_at tdX7_wordNumber 27 rfl) rfl (by decide) ?_
      refine x_goto 64 (x_at tdX7_wordNumber 28 rfl) rfl ?_
      refine x_weak (lv' := [(0, .long x0), (2, .int x2), (3, .long ((x3 * (32 : Int64)) + ((((zs_char0 x5) - (97 : Int32)) + (1 : Int32)) : Int32).toInt64)), (5, .int x5)]) ⟨rfl, rfl, rfl, rfl, trivial⟩ ?_
      exact H
theorem b_Tk_wordNumber_64 {h : xH} {d : Nat}  {x0 : Int64} {x2 : Int32} {x3 : Int64} {x5 : Int32} {S : xSt} {K : Int32 → xSt → Prop}  (H : B_Tk_wordNumber_7 h d x0 x2 x3 (x5 + 1) S K) : B_Tk_wordNumber_64 h d x0 x2 x3 x5 S K := by
  unfold B_Tk_wordNumber_64
  refine x_iinc (x_at tdX7_wordNumber 38 rfl) rfl (k_inc_1 _) (by decide) ?_
  refine x_goto 7 (x_at tdX7_wordNumber 39 rfl) rfl ?_
  refine x_weak (lv' := [(0, .long x0), (2, .int x2), (3, .long x3), (5, .int (x5 + 1))]) ⟨rfl, rfl, rfl, rfl, trivial⟩ ?_
  exact H
theorem e_Tk_advance {h : xH} {d : Nat}  {S : xSt} {K : xSt → Prop}  (H : B_Tk_advance_0 h d S K) : M_Tk_advance h d S K := by
  refine x_enter pn_X7 (Nat.le_of_ble_eq_true rfl) ?_
  show X (gC h) _ _ 0 [(0, .ref (x_ad (gC h) 19))] [] S _
  refine x_weak (lv' := [(0, .ref (x_ad (gC h) 19))]) ⟨rfl, trivial⟩ ?_
  exact H
theorem b_Tk_advance_0 {h : xH} {d : Nat}   {S : xSt} {K : xSt → Prop}  (H : (((S.1 19 1) ≤ (S.1 19 2) → B_Tk_advance_52 h d S K) ∧ (¬ (S.1 19 1) ≤ (S.1 19 2) → ((S.2.2 19) = 1 ∧ (vp_in (S.1 19 2) 1600 ∧ (((S.1 1 ((S.1 19 2) : Int32).toNatClampNeg) = 32 → B_Tk_advance_39 h d S K) ∧ (¬ (S.1 1 ((S.1 19 2) : Int32).toNatClampNeg) = 32 → ((S.2.2 19) = 1 ∧ (vp_in (S.1 19 2) 1600 ∧ ((¬ (S.1 1 ((S.1 19 2) : Int32).toNatClampNeg) = 10 → B_Tk_advance_52 h d S K) ∧ ((S.1 1 ((S.1 19 2) : Int32).toNatClampNeg) = 10 → B_Tk_advance_39 h d S K))))))))))) : B_Tk_advance_0 h d S K := by
  unfold B_Tk_advance_0
  refine x_aload_n (x_at tdX7_advance 0 rfl) rfl rfl ?_
  refine gfC_19_2 (x_at tdX7_advance 1 rfl) wf_X7_25 ?_
  refine x_aload_n (x_at tdX7_advance 2 rfl) rfl rfl ?_
  refine gfC_19_1 (x_at tdX7_advance 3 rfl) wf_X7_21 ?_
  refine x_ic_ge 52 (x_at tdX7_advance 4 rfl) rfl (fun c => ?_) (fun c => ?_)
  · have H := H.1 c
    refine x_weak (lv' := [(0, .ref (x_ad (gC h) 19))]) ⟨rfl, trivial⟩ ?_
    exact H
  · have H := H.2 c
    refine x_aload_n (x_at tdX7_advance 5 rfl) rfl rfl ?_
    refine gfC_19_0 (r := 1) (x_at tdX7_advance 6 rfl) wf_X7_9 H.1 ?_
    have H := H.2
    refine x_aload_n (x_at tdX7_advance 7 rfl) rfl rfl ?_
    refine gfC_19_2 (x_at tdX7_advance 8 rfl) wf_X7_25 ?_
    refine x_bald (lC_1 h) (x_at tdX7_advance 9 rfl) H.1 ?_
    have H := H.2
    refine x_bipush (x_at tdX7_advance 10 rfl) k_b_32 ?_
    refine x_ic_eq 39 (x_at tdX7_advance 11 rfl) rfl (fun c => ?_) (fun c => ?_)
    · have H := H.1 c
      refine x_weak (lv' := [(0, .ref (x_ad (gC h) 19))]) ⟨rfl, trivial⟩ ?_
      exact H
    · have H := H.2 c
      refine x_aload_n (x_at tdX7_advance 12 rfl) rfl rfl ?_
      refine gfC_19_0 (r := 1) (x_at tdX7_advance 13 rfl) wf_X7_9 H.1 ?_
      have H := H.2
      refine x_aload_n (x_at tdX7_advance 14 rfl) rfl rfl ?_
      refine gfC_19_2 (x_at tdX7_advance 15 rfl) wf_X7_25 ?_
      refine x_bald (lC_1 h) (x_at tdX7_advance 16 rfl) H.1 ?_
      have H := H.2
      refine x_bipush (x_at tdX7_advance 17 rfl) k_b_10 ?_
      refine x_ic_ne 52 (x_at tdX7_advance 18 rfl) rfl (fun c => ?_) (fun c => ?_)
      · have H := H.1 c
        refine x_weak (lv' := [(0, .ref (x_ad (gC h) 19))]) ⟨rfl, trivial⟩ ?_
        exact H
      · have H := H.2 c
        refine x_weak (lv' := [(0, .ref (x_ad (gC h) 19))]) ⟨rfl, trivial⟩ ?_
        exact H
theorem b_Tk_advance_39 {h : xH} {d : Nat}   {S : xSt} {K : xSt → Prop}  (H : B_Tk_advance_0 h d (x_putI S 19 2 ((S.1 19 2) + (1 : Int32))) K) : B_Tk_advance_39 h d S K := by
  unfold B_Tk_advance_39
  refine x_aload_n (x_at tdX7_advance 19 rfl) rfl rfl ?_
  refine x_dup (x_at tdX7_advance 20 rfl) rfl ?_
  refine gfC_19_2 (x_at tdX7_advance 21 rfl) wf_X7_25 ?_
  refine x_iconst (x_at tdX7_advance 22 rfl) k_c_1 ?_
  refine x_iadd (x_at tdX7_advance 23 rfl) ?_
  refine pfC_19_2 (x_at tdX7_advance 24 rfl) wf_X7_25 ?_
  refine x_goto 0 (x_at tdX7_advance 25 rfl) rfl ?_
  refine x_weak (lv' := [(0, .ref (x_ad (gC h) 19))]) ⟨rfl, trivial⟩ ?_
  exact H
theorem b_Tk_advance_52 {h : xH} {d : Nat}   {S : xSt} {K : xSt → Prop}  (H : (((S.1 19 2) < (S.1 19 1) → ((S.2.2 19) = 1 ∧ (vp_in (S.1 19 2) 1600 ∧ (((S.1 1 ((S.1 19 2) : Int32).toNatClampNeg) < 97 → B_Tk_advance_146 h d (x_putI S 19 3 (S.1 19 2)) K) ∧ (¬ (S.1 1 ((S.1 19 2) : Int32).toNatClampNeg) < 97 → ((S.2.2 19) = 1 ∧ (vp_in (S.1 19 2) 1600 ∧ ((122 < (S.1 1 ((S.1 19 2) : Int32).toNatClampNeg) → B_Tk_advance_146 h d (x_putI S 19 3 (S.1 19 2)) K) ∧ (¬ 122 < (S.1 1 ((S.1 19 2) : Int32).toNatClampNeg) → M_Tk_takeLetters h (d + 8) (x_putI S 19 3 (S.1 19 2)) (fun (S1 : xSt) => M_Tk_wordNumber h d (S1.2.1 19 6) S1 (fun (r2 : Int32) (S2 : xSt) => ((¬ (S2.1 19 4) = 2 → K (x_putI S2 19 5 r2)) ∧ ((S2.1 19 4) = 2 → ((r2 = (-1) → K (x_putI S2 19 5 r2)) ∧ (¬ r2 = (-1) → K (x_putI (x_putI S2 19 5 r2) 19 4 3)))))))))))))))) ∧ (¬ (S.1 19 2) < (S.1 19 1) → K (x_putI (x_putI S 19 3 (S.1 19 2)) 19 4 0)))) : B_Tk_advance_52 h d S K := by
  unfold B_Tk_advance_52
  refine x_aload_n (x_at tdX7_advance 26 rfl) rfl rfl ?_
  refine x_aload_n (x_at tdX7_advance 27 rfl) rfl rfl ?_
  refine gfC_19_2 (x_at tdX7_advance 28 rfl) wf_X7_25 ?_
  refine pfC_19_3 (x_at tdX7_advance 29 rfl) wf_X7_37 ?_
  refine x_aload_n (x_at tdX7_advance 30 rfl) rfl rfl ?_
  refine gfC_19_2 (x_at tdX7_advance 31 rfl) wf_X7_25 ?_
  refine x_top (v := (S.1 19 2)) rfl ?_
  refine x_aload_n (x_at tdX7_advance 32 rfl) rfl rfl ?_
  refine gfC_19_1 (x_at tdX7_advance 33 rfl) wf_X7_21 ?_
  refine x_top (v := (S.1 19 1)) rfl ?_
  refine x_ic_lt 79 (x_at tdX7_advance 34 rfl) rfl (fun c => ?_) (fun c => ?_)
  · have H := H.1 c
    refine x_aload_n (x_at tdX7_advance 39 rfl) rfl rfl ?_
    refine gfC_19_0 (r := 1) (x_at tdX7_advance 40 rfl) wf_X7_9 H.1 ?_
    have H := H.2
    refine x_aload_n (x_at tdX7_advance 41 rfl) rfl rfl ?_
    refine gfC_19_2 (x_at tdX7_advance 42 rfl) wf_X7_25 ?_
    refine x_top (v := (S.1 19 2)) rfl ?_
    refine x_bald (lC_1 h) (x_at tdX7_advance 43 rfl) H.1 ?_
    have H := H.2
    refine x_top (v := (S.1 1 ((S.1 19 2) : Int32).toNatClampNeg)) rfl ?_
    refine x_bipush (x_at tdX7_advance 44 rfl) k_b_97 ?_
    refine x_ic_lt 146 (x_at tdX7_advance 45 rfl) rfl (fun c => ?_) (fun c => ?_)
    · have H := H.1 c
      refine x_weak (lv' := [(0, .ref (x_ad (gC h) 19))]) ⟨rfl, trivial⟩ ?_
      exact H
    · have H := H.2 c
      refine x_aload_n (x_at tdX7_advance 46 rfl) rfl rfl ?_
      refine gfC_19_0 (r := 1) (x_at tdX7_advance 47 rfl) wf_X7_9 H.1 ?_
      have H := H.2
      refine x_aload_n (x_at tdX7_advance 48 rfl) rfl rfl ?_
      refine gfC_19_2 (x_at tdX7_advance 49 rfl) wf_X7_25 ?_
      refine x_top (v := (S.1 19 2)) rfl ?_
      refine x_bald (lC_1 h) (x_at tdX7_advance 50 rfl) H.1 ?_
      have H := H.2
      refine x_top (v := (S.1 1 ((S.1 19 2) : Int32).toNatClampNeg)) rfl ?_
      refine x_bipush (x_at tdX7_advance 51 rfl) k_b_122 ?_
      refine x_ic_gt 146 (x_at tdX7_advance 52 rfl) rfl (fun c => ?_) (fun c => ?_)
      · have H := H.1 c
        refine x_weak (lv' := [(0, .ref (x_ad (gC h) 19))]) ⟨rfl, trivial⟩ ?_
        exact H
      · have H := H.2 c
        refine x_aload_n (x_at tdX7_advance 53 rfl) rfl rfl ?_
        refine x_cVv (as := []) (rest := []) mi_X7_takeLetters vc_7 (lC_19 h) (x_at tdX7_advance 54 rfl) wm_X7_43 rfl (Nat.le_of_ble_eq_true rfl) rfl H (fun S1 H => ?_)
        refine x_aload_n (x_at tdX7_advance 55 rfl) rfl rfl ?_
        refine x_aload_n (x_at tdX7_advance 56 rfl) rfl rfl ?_
        refine gfC_19_6 (x_at tdX7_advance 57 rfl) wf_X7_46 ?_
        refine x_cSi (as := [.long (S1.2.1 19 6)]) (rest := [.ref (x_ad (gC h) 19)]) mi_X7_wordNumber (x_at tdX7_advance 58 rfl) wm_X7_50 rfl (Nat.le_of_ble_eq_true rfl) rfl H (fun r2 S2 H => ?_)
        refine pfC_19_5 (x_at tdX7_advance 59 rfl) wf_X7_54 ?_
        refine x_aload_n (x_at tdX7_advance 60 rfl) rfl rfl ?_
        refine gfC_19_4 (x_at tdX7_advance 61 rfl) wf_X7_40 ?_
        refine x_top (v := (S2.1 19 4)) rfl ?_
        refine x_iconst (x_at tdX7_advance 62 rfl) k_c_2 ?_
        refine x_ic_ne 230 (x_at tdX7_advance 63 rfl) rfl (fun c => ?_) (fun c => ?_)
        · have H := H.1 c
          exact x_return rfl (x_at tdX7_advance 115 rfl) ⟨rfl, H⟩
        · have H := H.2 c
          refine x_aload_n (x_at tdX7_advance 64 rfl) rfl rfl ?_
          refine gfC_19_5 (x_at tdX7_advance 65 rfl) wf_X7_54 ?_
          refine x_top (v := r2) rfl ?_
          refine x_iconst (x_at tdX7_advance 66 rfl) k_c_m1 ?_
          refine x_ic_eq 230 (x_at tdX7_advance 67 rfl) rfl (fun c => ?_) (fun c => ?_)
          · have H := H.1 c
            exact x_return rfl (x_at tdX7_advance 115 rfl) ⟨rfl, H⟩
          · have H := H.2 c
            refine x_aload_n (x_at tdX7_advance 68 rfl) rfl rfl ?_
            refine x_iconst (x_at tdX7_advance 69 rfl) k_c_3 ?_
            refine pfC_19_4 (x_at tdX7_advance 70 rfl) wf_X7_40 ?_
            refine x_goto 230 (x_at tdX7_advance 71 rfl) rfl ?_
            exact x_return rfl (x_at tdX7_advance 115 rfl) ⟨rfl, H⟩
  · have H := H.2 c
    refine x_aload_n (x_at tdX7_advance 35 rfl) rfl rfl ?_
    refine x_iconst (x_at tdX7_advance 36 rfl) k_c_0 ?_
    refine pfC_19_4 (x_at tdX7_advance 37 rfl) wf_X7_40 ?_
    refine x_goto 230 (x_at tdX7_advance 38 rfl) rfl ?_
    exact x_return rfl (x_at tdX7_advance 115 rfl) ⟨rfl, H⟩
theorem b_Tk_advance_146 {h : xH} {d : Nat}   {S : xSt} {K : xSt → Prop}  (H : ((S.2.2 19) = 1 ∧ (vp_in (S.1 19 2) 1600 ∧ (((S.1 1 ((S.1 19 2) : Int32).toNatClampNeg) < 48 → B_Tk_advance_181 h d S K) ∧ (¬ (S.1 1 ((S.1 19 2) : Int32).toNatClampNeg) < 48 → ((S.2.2 19) = 1 ∧ (vp_in (S.1 19 2) 1600 ∧ ((57 < (S.1 1 ((S.1 19 2) : Int32).toNatClampNeg) → B_Tk_advance_181 h d S K) ∧ (¬ 57 < (S.1 1 ((S.1 19 2) : Int32).toNatClampNeg) → M_Tk_takeDigits h (d + 8) S (fun (S1 : xSt) => K S1)))))))))) : B_Tk_advance_146 h d S K := by
  unfold B_Tk_advance_146
  refine x_aload_n (x_at tdX7_advance 72 rfl) rfl rfl ?_
  refine gfC_19_0 (r := 1) (x_at tdX7_advance 73 rfl) wf_X7_9 H.1 ?_
  have H := H.2
  refine x_aload_n (x_at tdX7_advance 74 rfl) rfl rfl ?_
  refine gfC_19_2 (x_at tdX7_advance 75 rfl) wf_X7_25 ?_
  refine x_bald (lC_1 h) (x_at tdX7_advance 76 rfl) H.1 ?_
  have H := H.2
  refine x_bipush (x_at tdX7_advance 77 rfl) k_b_48 ?_
  refine x_ic_lt 181 (x_at tdX7_advance 78 rfl) rfl (fun c => ?_) (fun c => ?_)
  · have H := H.1 c
    refine x_weak (lv' := [(0, .ref (x_ad (gC h) 19))]) ⟨rfl, trivial⟩ ?_
    exact H
  · have H := H.2 c
    refine x_aload_n (x_at tdX7_advance 79 rfl) rfl rfl ?_
    refine gfC_19_0 (r := 1) (x_at tdX7_advance 80 rfl) wf_X7_9 H.1 ?_
    have H := H.2
    refine x_aload_n (x_at tdX7_advance 81 rfl) rfl rfl ?_
    refine gfC_19_2 (x_at tdX7_advance 82 rfl) wf_X7_25 ?_
    refine x_bald (lC_1 h) (x_at tdX7_advance 83 rfl) H.1 ?_
    have H := H.2
    refine x_bipush (x_at tdX7_advance 84 rfl) k_b_57 ?_
    refine x_ic_gt 181 (x_at tdX7_advance 85 rfl) rfl (fun c => ?_) (fun c => ?_)
    · have H := H.1 c
      refine x_weak (lv' := [(0, .ref (x_ad (gC h) 19))]) ⟨rfl, trivial⟩ ?_
      exact H
    · have H := H.2 c
      refine x_aload_n (x_at tdX7_advance 86 rfl) rfl rfl ?_
      refine x_cVv (as := []) (rest := []) mi_X7_takeDigits vc_7 (lC_19 h) (x_at tdX7_advance 87 rfl) wm_X7_57 rfl (Nat.le_of_ble_eq_true rfl) rfl H (fun S1 H => ?_)
      refine x_goto 230 (x_at tdX7_advance 88 rfl) rfl ?_
      exact x_return rfl (x_at tdX7_advance 115 rfl) ⟨rfl, H⟩
theorem b_Tk_advance_181 {h : xH} {d : Nat}   {S : xSt} {K : xSt → Prop}  (H : ((S.2.2 19) = 1 ∧ (vp_in (S.1 19 2) 1600 ∧ (((zs_index1 ((((S.1 1 ((S.1 19 2) : Int32).toNatClampNeg) &&& (255 : Int32)) : Int32).toUInt32 % 65536).toInt32) < 0 → B_Tk_advance_217 h d 1 (x_putI S 19 5 ((S.1 1 ((S.1 19 2) : Int32).toNatClampNeg) &&& (255 : Int32))) K) ∧ (¬ (zs_index1 ((((S.1 1 ((S.1 19 2) : Int32).toNatClampNeg) &&& (255 : Int32)) : Int32).toUInt32 % 65536).toInt32) < 0 → B_Tk_advance_217 h d 5 (x_putI S 19 5 ((S.1 1 ((S.1 19 2) : Int32).toNatClampNeg) &&& (255 : Int32))) K))))) : B_Tk_advance_181 h d S K := by
  unfold B_Tk_advance_181
  refine x_aload_n (x_at tdX7_advance 89 rfl) rfl rfl ?_
  refine x_aload_n (x_at tdX7_advance 90 rfl) rfl rfl ?_
  refine gfC_19_0 (r := 1) (x_at tdX7_advance 91 rfl) wf_X7_9 H.1 ?_
  have H := H.2
  refine x_aload_n (x_at tdX7_advance 92 rfl) rfl rfl ?_
  refine gfC_19_2 (x_at tdX7_advance 93 rfl) wf_X7_25 ?_
  refine x_bald (lC_1 h) (x_at tdX7_advance 94 rfl) H.1 ?_
  have H := H.2
  refine x_sipush (x_at tdX7_advance 95 rfl) k_s_255 ?_
  refine x_iand (x_at tdX7_advance 96 rfl) ?_
  refine pfC_19_5 (x_at tdX7_advance 97 rfl) wf_X7_54 ?_
  refine x_aload_n (x_at tdX7_advance 98 rfl) rfl rfl ?_
  refine z_ldc1 (x_at tdX7_advance 99 rfl) rfl ?_
  refine x_aload_n (x_at tdX7_advance 100 rfl) rfl rfl ?_
  refine gfC_19_5 (x_at tdX7_advance 101 rfl) wf_X7_54 ?_
  refine x_top (v := ((S.1 1 ((S.1 19 2) : Int32).toNatClampNeg) &&& (255 : Int32))) rfl ?_
  refine x_i2c (x_at tdX7_advance 102 rfl) ?_
  refine z_indexOf1 (x_at tdX7_advance 103 rfl) wm_X7_62 (Nat.le_of_ble_eq_true rfl) ?_
  refine x_if_lt 216 (x_at tdX7_advance 104 rfl) rfl (fun c => ?_) (fun c => ?_)
  · have H := H.1 c
    refine x_iconst (x_at tdX7_advance 107 rfl) k_c_1 ?_
    refine x_weak (lv' := [(0, .ref (x_ad (gC h) 19))]) ⟨rfl, trivial⟩ ?_
    exact H
  · have H := H.2 c
    refine x_iconst (x_at tdX7_advance 105 rfl) k_c_5 ?_
    refine x_goto 217 (x_at tdX7_advance 106 rfl) rfl ?_
    refine x_weak (lv' := [(0, .ref (x_ad (gC h) 19))]) ⟨rfl, trivial⟩ ?_
    exact H
theorem b_Tk_advance_217 {h : xH} {d : Nat}  {s0 : Int32} {S : xSt} {K : xSt → Prop}  (H : K (x_putI (x_putI S 19 4 s0) 19 2 ((S.1 19 2) + (1 : Int32)))) : B_Tk_advance_217 h d s0 S K := by
  unfold B_Tk_advance_217
  refine pfC_19_4 (x_at tdX7_advance 108 rfl) wf_X7_40 ?_
  refine x_aload_n (x_at tdX7_advance 109 rfl) rfl rfl ?_
  refine x_dup (x_at tdX7_advance 110 rfl) rfl ?_
  refine gfC_19_2 (x_at tdX7_advance 111 rfl) wf_X7_25 ?_
  refine x_top (v := (S.1 19 2)) rfl ?_
  refine x_iconst (x_at tdX7_advance 112 rfl) k_c_1 ?_
  refine x_iadd (x_at tdX7_advance 113 rfl) ?_
  refine pfC_19_2 (x_at tdX7_advance 114 rfl) wf_X7_25 ?_
  exact x_return rfl (x_at tdX7_advance 115 rfl) ⟨rfl, H⟩
theorem e_Tk_refuseAt {h : xH} {d : Nat} {x1 : Int32} {x2 : Int32} {S : xSt} {K : Int32 → xSt → Prop}  (H : K 0 (x_putI (x_putI S 19 7 x1) 19 8 x2)) : M_Tk_refuseAt h d x1 x2 S K := by
  refine x_enter pn_X7 (Nat.le_of_ble_eq_true rfl) ?_
  show X (gC h) _ _ 0 [(0, .ref (x_ad (gC h) 19)), (1, .int x1), (2, .int x2)] [] S _
  refine x_aload_n (x_at tdX7_refuseAt 0 rfl) rfl rfl ?_
  refine x_iload_n (x_at tdX7_refuseAt 1 rfl) rfl rfl ?_
  refine pfC_19_7 (x_at tdX7_refuseAt 2 rfl) wf_X7_28 ?_
  refine x_aload_n (x_at tdX7_refuseAt 3 rfl) rfl rfl ?_
  refine x_iload_n (x_at tdX7_refuseAt 4 rfl) rfl rfl ?_
  refine pfC_19_8 (x_at tdX7_refuseAt 5 rfl) wf_X7_31 ?_
  refine x_iconst (x_at tdX7_refuseAt 6 rfl) k_c_0 ?_
  exact x_ireturn (ty := .boolean) rfl zb0.1 (x_at tdX7_refuseAt 7 rfl) ⟨_, rfl, H⟩
theorem e_Tk_refuse {h : xH} {d : Nat} {x1 : Int32} {S : xSt} {K : Int32 → xSt → Prop}  (H : ((¬ (S.1 19 4) = 1 → M_Tk_refuseAt h d x1 (S.1 19 3) S (fun (r1 : Int32) (S1 : xSt) => (zb r1 ∧ K r1 S1))) ∧ ((S.1 19 4) = 1 → M_Tk_refuseAt h d 1 (S.1 19 3) S (fun (r2 : Int32) (S2 : xSt) => (zb r2 ∧ K r2 S2))))) : M_Tk_refuse h d x1 S K := by
  refine x_enter pn_X7 (Nat.le_of_ble_eq_true rfl) ?_
  show X (gC h) _ _ 0 [(0, .ref (x_ad (gC h) 19)), (1, .int x1)] [] S _
  refine x_aload_n (x_at tdX7_refuse 0 rfl) rfl rfl ?_
  refine x_aload_n (x_at tdX7_refuse 1 rfl) rfl rfl ?_
  refine gfC_19_4 (x_at tdX7_refuse 2 rfl) wf_X7_40 ?_
  refine x_iconst (x_at tdX7_refuse 3 rfl) k_c_1 ?_
  refine x_ic_ne 13 (x_at tdX7_refuse 4 rfl) rfl (fun c => ?_) (fun c => ?_)
  · have H := H.1 c
    refine x_iload_n (x_at tdX7_refuse 7 rfl) rfl rfl ?_
    refine x_aload_n (x_at tdX7_refuse 8 rfl) rfl rfl ?_
    refine gfC_19_3 (x_at tdX7_refuse 9 rfl) wf_X7_37 ?_
    refine x_cVi (as := [.int x1, .int (S.1 19 3)]) (rest := []) mi_X7_refuseAt vc_7 (lC_19 h) (x_at tdX7_refuse 10 rfl) wm_X7_90 rfl (Nat.le_of_ble_eq_true rfl) rfl H (fun r1 S1 H => ?_)
    exact x_ireturn (ty := .boolean) rfl H.1.1 (x_at tdX7_refuse 11 rfl) ⟨_, rfl, H.2⟩
  · have H := H.2 c
    refine x_iconst (x_at tdX7_refuse 5 rfl) k_c_1 ?_
    refine x_goto 14 (x_at tdX7_refuse 6 rfl) rfl ?_
    refine x_aload_n (x_at tdX7_refuse 8 rfl) rfl rfl ?_
    refine gfC_19_3 (x_at tdX7_refuse 9 rfl) wf_X7_37 ?_
    refine x_cVi (as := [.int 1, .int (S.1 19 3)]) (rest := []) mi_X7_refuseAt vc_7 (lC_19 h) (x_at tdX7_refuse 10 rfl) wm_X7_90 rfl (Nat.le_of_ble_eq_true rfl) rfl H (fun r2 S2 H => ?_)
    exact x_ireturn (ty := .boolean) rfl H.1.1 (x_at tdX7_refuse 11 rfl) ⟨_, rfl, H.2⟩
theorem e_Wr_put_34 {h : xH} {d : Nat} {x1 : Int32} {S : xSt} {K : xSt → Prop}  (H : ((300 ≤ (S.1 34 1) → K S) ∧ (¬ 300 ≤ (S.1 34 1) → (vp_in (S.1 34 1) 300 ∧ K (x_putI (x_putI S 35 ((S.1 34 1) : Int32).toNatClampNeg x1) 34 1 ((S.1 34 1) + (1 : Int32))))))) : M_Wr_put_34 h d x1 S K := by
  refine x_enter pn_X10 (Nat.le_of_ble_eq_true rfl) ?_
  show X (gC h) _ _ 0 [(0, .ref (x_ad (gC h) 34)), (1, .int x1)] [] S _
  refine x_aload_n (x_at tdX10_put 0 rfl) rfl rfl ?_
  refine gfC_34_1 (x_at tdX10_put 1 rfl) wf_X10_18 ?_
  refine x_aload_n (x_at tdX10_put 2 rfl) rfl rfl ?_
  refine gfC_34_0 (x_at tdX10_put 3 rfl) wf_X10_9 ?_
  refine x_alen (by decide) (lC_35 h) (x_at tdX10_put 4 rfl) ?_
  refine x_top (v := 300) (by decide) ?_
  refine x_ic_ge 32 (x_at tdX10_put 5 rfl) rfl (fun c => ?_) (fun c => ?_)
  · have H := H.1 c
    exact x_return rfl (x_at tdX10_put 18 rfl) ⟨rfl, H⟩
  · have H := H.2 c
    refine x_aload_n (x_at tdX10_put 6 rfl) rfl rfl ?_
    refine gfC_34_0 (x_at tdX10_put 7 rfl) wf_X10_9 ?_
    refine x_aload_n (x_at tdX10_put 8 rfl) rfl rfl ?_
    refine gfC_34_1 (x_at tdX10_put 9 rfl) wf_X10_18 ?_
    refine x_iload_n (x_at tdX10_put 10 rfl) rfl rfl ?_
    refine x_iast (lC_35 h) (x_at tdX10_put 11 rfl) H.1 ?_
    have H := H.2
    refine x_aload_n (x_at tdX10_put 12 rfl) rfl rfl ?_
    refine x_dup (x_at tdX10_put 13 rfl) rfl ?_
    refine gfC_34_1 (x_at tdX10_put 14 rfl) wf_X10_18 ?_
    refine x_top (v := (S.1 34 1)) rfl ?_
    refine x_iconst (x_at tdX10_put 15 rfl) k_c_1 ?_
    refine x_iadd (x_at tdX10_put 16 rfl) ?_
    refine pfC_34_1 (x_at tdX10_put 17 rfl) wf_X10_18 ?_
    exact x_return rfl (x_at tdX10_put 18 rfl) ⟨rfl, H⟩
theorem e_Fr_readNot {h : xH} {d : Nat} {x1 : Int32} {S : xSt} {K : Int32 → xSt → Prop}  (H : ((x1 ≤ 6 → M_Tk_advance h (d + 3) S (fun (S1 : xSt) => M_Fr_readOne h d (x1 + (1 : Int32)) S1 (fun (r2 : Int32) (S2 : xSt) => ((¬ r2 = 0 → M_Wr_put_34 h (d + 12) 33 S2 (fun (S3 : xSt) => K 1 S3)) ∧ (r2 = 0 → K 0 S2))))) ∧ (¬ x1 ≤ 6 → M_Tk_refuse h (d + 11) 2 S (fun (r4 : Int32) (S4 : xSt) => (zb r4 ∧ K r4 S4))))) : M_Fr_readNot h (d + 1) x1 S K := by
  refine x_enter pn_X1 (Nat.le_of_ble_eq_true rfl) ?_
  show X (gC h) _ _ 0 [(0, .ref (x_ad (gC h) 37)), (1, .int x1)] [] S _
  refine x_iload_n (x_at tdX1_readNot 0 rfl) rfl rfl ?_
  refine x_bipush (x_at tdX1_readNot 1 rfl) k_b_6 ?_
  refine x_ic_le 15 (x_at tdX1_readNot 2 rfl) rfl (fun c => ?_) (fun c => ?_)
  · have H := H.1 c
    refine x_aload_n (x_at tdX1_readNot 8 rfl) rfl rfl ?_
    refine gfC_37_0 (x_at tdX1_readNot 9 rfl) wf_X1_9 ?_
    refine x_cVv (as := []) (rest := []) mi_X7_advance vc_7 (lC_19 h) (x_at tdX1_readNot 10 rfl) wm_X1_31 rfl (Nat.le_of_ble_eq_true rfl) rfl H (fun S1 H => ?_)
    refine x_aload_n (x_at tdX1_readNot 11 rfl) rfl rfl ?_
    refine x_iload_n (x_at tdX1_readNot 12 rfl) rfl rfl ?_
    refine x_iconst (x_at tdX1_readNot 13 rfl) k_c_1 ?_
    refine x_iadd (x_at tdX1_readNot 14 rfl) ?_
    refine x_cVi (as := [.int (x1 + (1 : Int32))]) (rest := []) mi_X1_readOne vc_1 (lC_37 h) (x_at tdX1_readNot 15 rfl) wm_X1_40 rfl (Nat.le_of_ble_eq_true rfl) rfl H (fun r2 S2 H => ?_)
    refine x_if_ne 34 (x_at tdX1_readNot 16 rfl) rfl (fun c => ?_) (fun c => ?_)
    · have H := H.1 c
      refine x_aload_n (x_at tdX1_readNot 19 rfl) rfl rfl ?_
      refine gfC_37_1 (x_at tdX1_readNot 20 rfl) wf_X1_15 ?_
      refine x_bipush (x_at tdX1_readNot 21 rfl) k_b_33 ?_
      refine x_cVv (as := [.int 33]) (rest := []) mi_X10_put vc_10 (lC_34 h) (x_at tdX1_readNot 22 rfl) wm_X1_36 rfl (Nat.le_of_ble_eq_true rfl) rfl H (fun S3 H => ?_)
      refine x_iconst (x_at tdX1_readNot 23 rfl) k_c_1 ?_
      exact x_ireturn (ty := .boolean) rfl zb1.1 (x_at tdX1_readNot 24 rfl) ⟨_, rfl, H⟩
    · have H := H.2 c
      refine x_iconst (x_at tdX1_readNot 17 rfl) k_c_0 ?_
      exact x_ireturn (ty := .boolean) rfl zb0.1 (x_at tdX1_readNot 18 rfl) ⟨_, rfl, H⟩
  · have H := H.2 c
    refine x_aload_n (x_at tdX1_readNot 3 rfl) rfl rfl ?_
    refine gfC_37_0 (x_at tdX1_readNot 4 rfl) wf_X1_9 ?_
    refine x_iconst (x_at tdX1_readNot 5 rfl) k_c_2 ?_
    refine x_cVi (as := [.int 2]) (rest := []) mi_X7_refuse vc_7 (lC_19 h) (x_at tdX1_readNot 6 rfl) wm_X1_57 rfl (Nat.le_of_ble_eq_true rfl) rfl H (fun r4 S4 H => ?_)
    exact x_ireturn (ty := .boolean) rfl H.1.1 (x_at tdX1_readNot 7 rfl) ⟨_, rfl, H.2⟩
theorem e_Tk_isSign {h : xH} {d : Nat} {x1 : Int32} {S : xSt} {K : Int32 → xSt → Prop}  (H : ((¬ (S.1 19 4) = 5 → K 0 S) ∧ ((S.1 19 4) = 5 → ((¬ (S.1 19 5) = x1 → K 0 S) ∧ ((S.1 19 5) = x1 → K 1 S))))) : M_Tk_isSign h d x1 S K := by
  refine x_enter pn_X7 (Nat.le_of_ble_eq_true rfl) ?_
  show X (gC h) _ _ 0 [(0, .ref (x_ad (gC h) 19)), (1, .int x1)] [] S _
  refine x_aload_n (x_at tdX7_isSign 0 rfl) rfl rfl ?_
  refine gfC_19_4 (x_at tdX7_isSign 1 rfl) wf_X7_40 ?_
  refine x_iconst (x_at tdX7_isSign 2 rfl) k_c_5 ?_
  refine x_ic_ne 20 (x_at tdX7_isSign 3 rfl) rfl (fun c => ?_) (fun c => ?_)
  · have H := H.1 c
    refine x_iconst (x_at tdX7_isSign 10 rfl) k_c_0 ?_
    exact x_ireturn (ty := .boolean) rfl zb0.1 (x_at tdX7_isSign 11 rfl) ⟨_, rfl, H⟩
  · have H := H.2 c
    refine x_aload_n (x_at tdX7_isSign 4 rfl) rfl rfl ?_
    refine gfC_19_5 (x_at tdX7_isSign 5 rfl) wf_X7_54 ?_
    refine x_iload_n (x_at tdX7_isSign 6 rfl) rfl rfl ?_
    refine x_ic_ne 20 (x_at tdX7_isSign 7 rfl) rfl (fun c => ?_) (fun c => ?_)
    · have H := H.1 c
      refine x_iconst (x_at tdX7_isSign 10 rfl) k_c_0 ?_
      exact x_ireturn (ty := .boolean) rfl zb0.1 (x_at tdX7_isSign 11 rfl) ⟨_, rfl, H⟩
    · have H := H.2 c
      refine x_iconst (x_at tdX7_isSign 8 rfl) k_c_1 ?_
      refine x_goto 21 (x_at tdX7_isSign 9 rfl) rfl ?_
      exact x_ireturn (ty := .boolean) rfl zb1.1 (x_at tdX7_isSign 11 rfl) ⟨_, rfl, H⟩
theorem e_Fr_isTermSign {h : xH} {d : Nat}  {S : xSt} {K : Int32 → xSt → Prop}  (H : M_Tk_isSign h d 42 S (fun (r1 : Int32) (S1 : xSt) => ((¬ r1 = 0 → K 1 S1) ∧ (r1 = 0 → M_Tk_isSign h d 47 S1 (fun (r2 : Int32) (S2 : xSt) => ((¬ r2 = 0 → K 1 S2) ∧ (r2 = 0 → M_Tk_isSign h d 37 S2 (fun (r3 : Int32) (S3 : xSt) => ((r3 = 0 → K 0 S3) ∧ (¬ r3 = 0 → K 1 S3)))))))))) : M_Fr_isTermSign h d S K := by
  refine x_enter pn_X1 (Nat.le_of_ble_eq_true rfl) ?_
  show X (gC h) _ _ 0 [(0, .ref (x_ad (gC h) 37))] [] S _
  refine x_aload_n (x_at tdX1_isTermSign 0 rfl) rfl rfl ?_
  refine gfC_37_0 (x_at tdX1_isTermSign 1 rfl) wf_X1_9 ?_
  refine x_bipush (x_at tdX1_isTermSign 2 rfl) k_b_42 ?_
  refine x_cVi (as := [.int 42]) (rest := []) mi_X7_isSign vc_7 (lC_19 h) (x_at tdX1_isTermSign 3 rfl) wm_X1_49 rfl (Nat.le_of_ble_eq_true rfl) rfl H (fun r1 S1 H => ?_)
  refine x_if_ne 36 (x_at tdX1_isTermSign 4 rfl) rfl (fun c => ?_) (fun c => ?_)
  · have H := H.1 c
    refine x_iconst (x_at tdX1_isTermSign 15 rfl) k_c_1 ?_
    refine x_goto 41 (x_at tdX1_isTermSign 16 rfl) rfl ?_
    exact x_ireturn (ty := .boolean) rfl zb1.1 (x_at tdX1_isTermSign 18 rfl) ⟨_, rfl, H⟩
  · have H := H.2 c
    refine x_aload_n (x_at tdX1_isTermSign 5 rfl) rfl rfl ?_
    refine gfC_37_0 (x_at tdX1_isTermSign 6 rfl) wf_X1_9 ?_
    refine x_bipush (x_at tdX1_isTermSign 7 rfl) k_b_47 ?_
    refine x_cVi (as := [.int 47]) (rest := []) mi_X7_isSign vc_7 (lC_19 h) (x_at tdX1_isTermSign 8 rfl) wm_X1_49 rfl (Nat.le_of_ble_eq_true rfl) rfl H (fun r2 S2 H => ?_)
    refine x_if_ne 36 (x_at tdX1_isTermSign 9 rfl) rfl (fun c => ?_) (fun c => ?_)
    · have H := H.1 c
      refine x_iconst (x_at tdX1_isTermSign 15 rfl) k_c_1 ?_
      refine x_goto 41 (x_at tdX1_isTermSign 16 rfl) rfl ?_
      exact x_ireturn (ty := .boolean) rfl zb1.1 (x_at tdX1_isTermSign 18 rfl) ⟨_, rfl, H⟩
    · have H := H.2 c
      refine x_aload_n (x_at tdX1_isTermSign 10 rfl) rfl rfl ?_
      refine gfC_37_0 (x_at tdX1_isTermSign 11 rfl) wf_X1_9 ?_
      refine x_bipush (x_at tdX1_isTermSign 12 rfl) k_b_37 ?_
      refine x_cVi (as := [.int 37]) (rest := []) mi_X7_isSign vc_7 (lC_19 h) (x_at tdX1_isTermSign 13 rfl) wm_X1_49 rfl (Nat.le_of_ble_eq_true rfl) rfl H (fun r3 S3 H => ?_)
      refine x_if_eq 40 (x_at tdX1_isTermSign 14 rfl) rfl (fun c => ?_) (fun c => ?_)
      · have H := H.1 c
        refine x_iconst (x_at tdX1_isTermSign 17 rfl) k_c_0 ?_
        exact x_ireturn (ty := .boolean) rfl zb0.1 (x_at tdX1_isTermSign 18 rfl) ⟨_, rfl, H⟩
      · have H := H.2 c
        refine x_iconst (x_at tdX1_isTermSign 15 rfl) k_c_1 ?_
        refine x_goto 41 (x_at tdX1_isTermSign 16 rfl) rfl ?_
        exact x_ireturn (ty := .boolean) rfl zb1.1 (x_at tdX1_isTermSign 18 rfl) ⟨_, rfl, H⟩
theorem e_Fr_inputSign {h : xH} {d : Nat}  {S : xSt} {K : Int32 → xSt → Prop}  (H : ((¬ (S.1 19 4) = 3 → B_Fr_inputSign_22 h d (-1) S K) ∧ ((S.1 19 4) = 3 → B_Fr_inputSign_22 h d (S.1 19 5) S K))) : M_Fr_inputSign h d S K := by
  refine x_enter pn_X1 (Nat.le_of_ble_eq_true rfl) ?_
  show X (gC h) _ _ 0 [(0, .ref (x_ad (gC h) 37))] [] S _
  refine x_aload_n (x_at tdX1_inputSign 0 rfl) rfl rfl ?_
  refine gfC_37_0 (x_at tdX1_inputSign 1 rfl) wf_X1_9 ?_
  refine gfC_19_4 (x_at tdX1_inputSign 2 rfl) wf_X1_76 ?_
  refine x_iconst (x_at tdX1_inputSign 3 rfl) k_c_3 ?_
  refine x_ic_ne 21 (x_at tdX1_inputSign 4 rfl) rfl (fun c => ?_) (fun c => ?_)
  · have H := H.1 c
    refine x_iconst (x_at tdX1_inputSign 9 rfl) k_c_m1 ?_
    refine x_weak (lv' := []) trivial ?_
    exact H
  · have H := H.2 c
    refine x_aload_n (x_at tdX1_inputSign 5 rfl) rfl rfl ?_
    refine gfC_37_0 (x_at tdX1_inputSign 6 rfl) wf_X1_9 ?_
    refine gfC_19_5 (x_at tdX1_inputSign 7 rfl) wf_X1_53 ?_
    refine x_goto 22 (x_at tdX1_inputSign 8 rfl) rfl ?_
    refine x_weak (lv' := []) trivial ?_
    exact H
theorem b_Fr_inputSign_22 {h : xH} {d : Nat}  {s0 : Int32} {S : xSt} {K : Int32 → xSt → Prop}  (H : ((s0 = 2 → K 104 S) ∧ (s0 = 12 → K 116 S) ∧ (s0 = 16 → K 100 S) ∧ (s0 = 17 → K 115 S) ∧ (¬ s0 = 2 → ¬ s0 = 12 → ¬ s0 = 16 → ¬ s0 = 17 → K (-1) S))) : B_Fr_inputSign_22 h d s0 S K := by
  unfold B_Fr_inputSign_22
  refine x_istore_n (x_at tdX1_inputSign 10 rfl) rfl (by decide) ?_
  refine x_iload_n (x_at tdX1_inputSign 11 rfl) rfl rfl ?_
  by_cases hx0 : s0 = 2
  · refine x_lsw (off := 47) 71 (x_at tdX1_inputSign 12 rfl) (by decide) hx0 (by decide) rfl ?_
    have H := H.1 hx0
    refine x_bipush (x_at tdX1_inputSign 15 rfl) k_b_104 ?_
    exact x_ireturn (ty := .int) rfl rfl (x_at tdX1_inputSign 16 rfl) ⟨_, rfl, H⟩
  by_cases hx1 : s0 = 12
  · refine x_lsw (off := 44) 68 (x_at tdX1_inputSign 12 rfl) (by decide) hx1 (by decide) rfl ?_
    have H := H.2.1 hx1
    refine x_bipush (x_at tdX1_inputSign 13 rfl) k_b_116 ?_
    exact x_ireturn (ty := .int) rfl rfl (x_at tdX1_inputSign 14 rfl) ⟨_, rfl, H⟩
  by_cases hx2 : s0 = 16
  · refine x_lsw (off := 53) 77 (x_at tdX1_inputSign 12 rfl) (by decide) hx2 (by decide) rfl ?_
    have H := H.2.2.1 hx2
    refine x_bipush (x_at tdX1_inputSign 19 rfl) k_b_100 ?_
    exact x_ireturn (ty := .int) rfl rfl (x_at tdX1_inputSign 20 rfl) ⟨_, rfl, H⟩
  by_cases hx3 : s0 = 17
  · refine x_lsw (off := 50) 74 (x_at tdX1_inputSign 12 rfl) (by decide) hx3 (by decide) rfl ?_
    have H := H.2.2.2.1 hx3
    refine x_bipush (x_at tdX1_inputSign 17 rfl) k_b_115 ?_
    exact x_ireturn (ty := .int) rfl rfl (x_at tdX1_inputSign 18 rfl) ⟨_, rfl, H⟩
  refine x_lookup (off := 56) 80 (x_at tdX1_inputSign 12 rfl) (by decide) (by rw [lv_osw hx0 (by decide), lv_osw hx1 (by decide), lv_osw hx2 (by decide), lv_osw hx3 (by decide)]; rfl) rfl ?_
  have H := H.2.2.2.2 hx0 hx1 hx2 hx3
  refine x_iconst (x_at tdX1_inputSign 21 rfl) k_c_m1 ?_
  exact x_ireturn (ty := .int) rfl rfl (x_at tdX1_inputSign 22 rfl) ⟨_, rfl, H⟩
theorem e_Tk_takesSign {h : xH} {d : Nat} {x1 : Int32} {S : xSt} {K : Int32 → xSt → Prop}  (H : M_Tk_isSign h (d + 9) x1 S (fun (r1 : Int32) (S1 : xSt) => ((¬ r1 = 0 → M_Tk_advance h d S1 (fun (S2 : xSt) => K 1 S2)) ∧ (r1 = 0 → M_Tk_refuse h (d + 8) 2 S1 (fun (r3 : Int32) (S3 : xSt) => (zb r3 ∧ K r3 S3)))))) : M_Tk_takesSign h d x1 S K := by
  refine x_enter pn_X7 (Nat.le_of_ble_eq_true rfl) ?_
  show X (gC h) _ _ 0 [(0, .ref (x_ad (gC h) 19)), (1, .int x1)] [] S _
  refine x_aload_n (x_at tdX7_takesSign 0 rfl) rfl rfl ?_
  refine x_iload_n (x_at tdX7_takesSign 1 rfl) rfl rfl ?_
  refine x_cVi (as := [.int x1]) (rest := []) mi_X7_isSign vc_7 (lC_19 h) (x_at tdX7_takesSign 2 rfl) wm_X7_86 rfl (Nat.le_of_ble_eq_true rfl) rfl H (fun r1 S1 H => ?_)
  refine x_if_ne 14 (x_at tdX7_takesSign 3 rfl) rfl (fun c => ?_) (fun c => ?_)
  · have H := H.1 c
    refine x_aload_n (x_at tdX7_takesSign 8 rfl) rfl rfl ?_
    refine x_cVv (as := []) (rest := []) mi_X7_advance vc_7 (lC_19 h) (x_at tdX7_takesSign 9 rfl) wm_X7_34 rfl (Nat.le_of_ble_eq_true rfl) rfl H (fun S2 H => ?_)
    refine x_iconst (x_at tdX7_takesSign 10 rfl) k_c_1 ?_
    exact x_ireturn (ty := .boolean) rfl zb1.1 (x_at tdX7_takesSign 11 rfl) ⟨_, rfl, H⟩
  · have H := H.2 c
    refine x_aload_n (x_at tdX7_takesSign 4 rfl) rfl rfl ?_
    refine x_iconst (x_at tdX7_takesSign 5 rfl) k_c_2 ?_
    refine x_cVi (as := [.int 2]) (rest := []) mi_X7_refuse vc_7 (lC_19 h) (x_at tdX7_takesSign 6 rfl) wm_X7_83 rfl (Nat.le_of_ble_eq_true rfl) rfl H (fun r3 S3 H => ?_)
    exact x_ireturn (ty := .boolean) rfl H.1.1 (x_at tdX7_takesSign 7 rfl) ⟨_, rfl, H.2⟩
theorem e_Fr_readBracket {h : xH} {d : Nat} {x1 : Int32} {S : xSt} {K : Int32 → xSt → Prop}  (H : ((x1 ≤ 6 → M_Tk_advance h (d + 3) S (fun (S1 : xSt) => M_Fr_readEither h d (x1 + (1 : Int32)) S1 (fun (r2 : Int32) (S2 : xSt) => ((r2 = 0 → K 0 S2) ∧ (¬ r2 = 0 → M_Tk_takesSign h (d + 2) 41 S2 (fun (r3 : Int32) (S3 : xSt) => ((r3 = 0 → K 0 S3) ∧ (¬ r3 = 0 → K 1 S3)))))))) ∧ (¬ x1 ≤ 6 → M_Tk_refuse h (d + 11) 2 S (fun (r4 : Int32) (S4 : xSt) => (zb r4 ∧ K r4 S4))))) : M_Fr_readBracket h (d + 1) x1 S K := by
  refine x_enter pn_X1 (Nat.le_of_ble_eq_true rfl) ?_
  show X (gC h) _ _ 0 [(0, .ref (x_ad (gC h) 37)), (1, .int x1)] [] S _
  refine x_iload_n (x_at tdX1_readBracket 0 rfl) rfl rfl ?_
  refine x_bipush (x_at tdX1_readBracket 1 rfl) k_b_6 ?_
  refine x_ic_le 15 (x_at tdX1_readBracket 2 rfl) rfl (fun c => ?_) (fun c => ?_)
  · have H := H.1 c
    refine x_aload_n (x_at tdX1_readBracket 8 rfl) rfl rfl ?_
    refine gfC_37_0 (x_at tdX1_readBracket 9 rfl) wf_X1_9 ?_
    refine x_cVv (as := []) (rest := []) mi_X7_advance vc_7 (lC_19 h) (x_at tdX1_readBracket 10 rfl) wm_X1_31 rfl (Nat.le_of_ble_eq_true rfl) rfl H (fun S1 H => ?_)
    refine x_aload_n (x_at tdX1_readBracket 11 rfl) rfl rfl ?_
    refine x_iload_n (x_at tdX1_readBracket 12 rfl) rfl rfl ?_
    refine x_iconst (x_at tdX1_readBracket 13 rfl) k_c_1 ?_
    refine x_iadd (x_at tdX1_readBracket 14 rfl) ?_
    refine x_cVi (as := [.int (x1 + (1 : Int32))]) (rest := []) mi_X1_readEither vc_1 (lC_37 h) (x_at tdX1_readBracket 15 rfl) wm_X1_19 rfl (Nat.le_of_ble_eq_true rfl) rfl H (fun r2 S2 H => ?_)
    refine x_if_eq 48 (x_at tdX1_readBracket 16 rfl) rfl (fun c => ?_) (fun c => ?_)
    · have H := H.1 c
      refine x_iconst (x_at tdX1_readBracket 24 rfl) k_c_0 ?_
      exact x_ireturn (ty := .boolean) rfl zb0.1 (x_at tdX1_readBracket 25 rfl) ⟨_, rfl, H⟩
    · have H := H.2 c
      refine x_aload_n (x_at tdX1_readBracket 17 rfl) rfl rfl ?_
      refine gfC_37_0 (x_at tdX1_readBracket 18 rfl) wf_X1_9 ?_
      refine x_bipush (x_at tdX1_readBracket 19 rfl) k_b_41 ?_
      refine x_cVi (as := [.int 41]) (rest := []) mi_X7_takesSign vc_7 (lC_19 h) (x_at tdX1_readBracket 20 rfl) wm_X1_83 rfl (Nat.le_of_ble_eq_true rfl) rfl H (fun r3 S3 H => ?_)
      refine x_if_eq 48 (x_at tdX1_readBracket 21 rfl) rfl (fun c => ?_) (fun c => ?_)
      · have H := H.1 c
        refine x_iconst (x_at tdX1_readBracket 24 rfl) k_c_0 ?_
        exact x_ireturn (ty := .boolean) rfl zb0.1 (x_at tdX1_readBracket 25 rfl) ⟨_, rfl, H⟩
      · have H := H.2 c
        refine x_iconst (x_at tdX1_readBracket 22 rfl) k_c_1 ?_
        refine x_goto 49 (x_at tdX1_readBracket 23 rfl) rfl ?_
        exact x_ireturn (ty := .boolean) rfl zb1.1 (x_at tdX1_readBracket 25 rfl) ⟨_, rfl, H⟩
  · have H := H.2 c
    refine x_aload_n (x_at tdX1_readBracket 3 rfl) rfl rfl ?_
    refine gfC_37_0 (x_at tdX1_readBracket 4 rfl) wf_X1_9 ?_
    refine x_iconst (x_at tdX1_readBracket 5 rfl) k_c_2 ?_
    refine x_cVi (as := [.int 2]) (rest := []) mi_X7_refuse vc_7 (lC_19 h) (x_at tdX1_readBracket 6 rfl) wm_X1_57 rfl (Nat.le_of_ble_eq_true rfl) rfl H (fun r4 S4 H => ?_)
    exact x_ireturn (ty := .boolean) rfl H.1.1 (x_at tdX1_readBracket 7 rfl) ⟨_, rfl, H.2⟩
theorem e_Fr_readUnit {h : xH} {d : Nat} {x1 : Int32} {S : xSt} {K : Int32 → xSt → Prop}  (H : (((S.1 34 3) < 30 → M_Tk_isSign h (d + 12) 40 (x_putI S 34 3 ((S.1 34 3) + (1 : Int32))) (fun (r1 : Int32) (S1 : xSt) => ((r1 = 0 → ((¬ (S1.1 19 4) = 4 → M_Fr_inputSign h (d + 12) S1 (fun (r2 : Int32) (S2 : xSt) => B_Fr_readUnit_81 h d r2 S2 K)) ∧ ((S1.1 19 4) = 4 → B_Fr_readUnit_81 h d ((1000 : Int32) + (S1.1 19 5)) S1 K))) ∧ (¬ r1 = 0 → M_Fr_readBracket h d x1 S1 (fun (r3 : Int32) (S3 : xSt) => (zb r3 ∧ K r3 S3)))))) ∧ (¬ (S.1 34 3) < 30 → M_Tk_refuse h (d + 11) 2 S (fun (r4 : Int32) (S4 : xSt) => (zb r4 ∧ K r4 S4))))) : M_Fr_readUnit h (d + 1) x1 S K := by
  refine x_enter pn_X1 (Nat.le_of_ble_eq_true rfl) ?_
  show X (gC h) _ _ 0 [(0, .ref (x_ad (gC h) 37)), (1, .int x1)] [] S _
  refine x_aload_n (x_at tdX1_readUnit 0 rfl) rfl rfl ?_
  refine gfC_37_1 (x_at tdX1_readUnit 1 rfl) wf_X1_15 ?_
  refine gfC_34_3 (x_at tdX1_readUnit 2 rfl) wf_X1_70 ?_
  refine x_bipush (x_at tdX1_readUnit 3 rfl) k_b_30 ?_
  refine x_ic_lt 21 (x_at tdX1_readUnit 4 rfl) rfl (fun c => ?_) (fun c => ?_)
  · have H := H.1 c
    refine x_aload_n (x_at tdX1_readUnit 10 rfl) rfl rfl ?_
    refine gfC_37_1 (x_at tdX1_readUnit 11 rfl) wf_X1_15 ?_
    refine x_dup (x_at tdX1_readUnit 12 rfl) rfl ?_
    refine gfC_34_3 (x_at tdX1_readUnit 13 rfl) wf_X1_70 ?_
    refine x_iconst (x_at tdX1_readUnit 14 rfl) k_c_1 ?_
    refine x_iadd (x_at tdX1_readUnit 15 rfl) ?_
    refine pfC_34_3 (x_at tdX1_readUnit 16 rfl) wf_X1_70 ?_
    refine x_aload_n (x_at tdX1_readUnit 17 rfl) rfl rfl ?_
    refine gfC_37_0 (x_at tdX1_readUnit 18 rfl) wf_X1_9 ?_
    refine x_bipush (x_at tdX1_readUnit 19 rfl) k_b_40 ?_
    refine x_cVi (as := [.int 40]) (rest := []) mi_X7_isSign vc_7 (lC_19 h) (x_at tdX1_readUnit 20 rfl) wm_X1_49 rfl (Nat.le_of_ble_eq_true rfl) rfl H (fun r1 S1 H => ?_)
    refine x_if_eq 52 (x_at tdX1_readUnit 21 rfl) rfl (fun c => ?_) (fun c => ?_)
    · have H := H.1 c
      refine x_aload_n (x_at tdX1_readUnit 26 rfl) rfl rfl ?_
      refine gfC_37_0 (x_at tdX1_readUnit 27 rfl) wf_X1_9 ?_
      refine gfC_19_4 (x_at tdX1_readUnit 28 rfl) wf_X1_76 ?_
      refine x_iconst (x_at tdX1_readUnit 29 rfl) k_c_4 ?_
      refine x_ic_ne 77 (x_at tdX1_readUnit 30 rfl) rfl (fun c => ?_) (fun c => ?_)
      · have H := H.1 c
        refine x_aload_n (x_at tdX1_readUnit 37 rfl) rfl rfl ?_
        refine x_cVi (as := []) (rest := []) mi_X1_inputSign vc_1 (lC_37 h) (x_at tdX1_readUnit 38 rfl) wm_X1_79 rfl (Nat.le_of_ble_eq_true rfl) rfl H (fun r2 S2 H => ?_)
        refine x_weak (lv' := [(0, .ref (x_ad (gC h) 37))]) ⟨rfl, trivial⟩ ?_
        exact H
      · have H := H.2 c
        refine x_sipush (x_at tdX1_readUnit 31 rfl) k_s_1000 ?_
        refine x_aload_n (x_at tdX1_readUnit 32 rfl) rfl rfl ?_
        refine gfC_37_0 (x_at tdX1_readUnit 33 rfl) wf_X1_9 ?_
        refine gfC_19_5 (x_at tdX1_readUnit 34 rfl) wf_X1_53 ?_
        refine x_iadd (x_at tdX1_readUnit 35 rfl) ?_
        refine x_goto 81 (x_at tdX1_readUnit 36 rfl) rfl ?_
        refine x_weak (lv' := [(0, .ref (x_ad (gC h) 37))]) ⟨rfl, trivial⟩ ?_
        exact H
    · have H := H.2 c
      refine x_aload_n (x_at tdX1_readUnit 22 rfl) rfl rfl ?_
      refine x_iload_n (x_at tdX1_readUnit 23 rfl) rfl rfl ?_
      refine x_cVi (as := [.int x1]) (rest := []) mi_X1_readBracket vc_1 (lC_37 h) (x_at tdX1_readUnit 24 rfl) wm_X1_73 rfl (Nat.le_of_ble_eq_true rfl) rfl H (fun r3 S3 H => ?_)
      exact x_ireturn (ty := .boolean) rfl H.1.1 (x_at tdX1_readUnit 25 rfl) ⟨_, rfl, H.2⟩
  · have H := H.2 c
    refine x_aload_n (x_at tdX1_readUnit 5 rfl) rfl rfl ?_
    refine gfC_37_0 (x_at tdX1_readUnit 6 rfl) wf_X1_9 ?_
    refine x_iconst (x_at tdX1_readUnit 7 rfl) k_c_2 ?_
    refine x_cVi (as := [.int 2]) (rest := []) mi_X7_refuse vc_7 (lC_19 h) (x_at tdX1_readUnit 8 rfl) wm_X1_57 rfl (Nat.le_of_ble_eq_true rfl) rfl H (fun r4 S4 H => ?_)
    exact x_ireturn (ty := .boolean) rfl H.1.1 (x_at tdX1_readUnit 9 rfl) ⟨_, rfl, H.2⟩
theorem b_Fr_readUnit_81 {h : xH} {d : Nat}  {s0 : Int32} {S : xSt} {K : Int32 → xSt → Prop}  (H : ((¬ s0 = (-1) → M_Wr_put_34 h (d + 12) s0 S (fun (S1 : xSt) => M_Tk_advance h (d + 3) S1 (fun (S2 : xSt) => K 1 S2))) ∧ (s0 = (-1) → M_Tk_refuse h (d + 11) 2 S (fun (r3 : Int32) (S3 : xSt) => (zb r3 ∧ K r3 S3))))) : B_Fr_readUnit_81 h d s0 S K := by
  unfold B_Fr_readUnit_81
  refine x_istore_n (x_at tdX1_readUnit 39 rfl) rfl (by decide) ?_
  refine x_iload_n (x_at tdX1_readUnit 40 rfl) rfl rfl ?_
  refine x_iconst (x_at tdX1_readUnit 41 rfl) k_c_m1 ?_
  refine x_ic_ne 96 (x_at tdX1_readUnit 42 rfl) rfl (fun c => ?_) (fun c => ?_)
  · have H := H.1 c
    refine x_aload_n (x_at tdX1_readUnit 48 rfl) rfl rfl ?_
    refine gfC_37_1 (x_at tdX1_readUnit 49 rfl) wf_X1_15 ?_
    refine x_iload_n (x_at tdX1_readUnit 50 rfl) rfl rfl ?_
    refine x_cVv (as := [.int s0]) (rest := []) mi_X10_put vc_10 (lC_34 h) (x_at tdX1_readUnit 51 rfl) wm_X1_36 rfl (Nat.le_of_ble_eq_true rfl) rfl H (fun S1 H => ?_)
    refine x_aload_n (x_at tdX1_readUnit 52 rfl) rfl rfl ?_
    refine gfC_37_0 (x_at tdX1_readUnit 53 rfl) wf_X1_9 ?_
    refine x_cVv (as := []) (rest := []) mi_X7_advance vc_7 (lC_19 h) (x_at tdX1_readUnit 54 rfl) wm_X1_31 rfl (Nat.le_of_ble_eq_true rfl) rfl H (fun S2 H => ?_)
    refine x_iconst (x_at tdX1_readUnit 55 rfl) k_c_1 ?_
    exact x_ireturn (ty := .boolean) rfl zb1.1 (x_at tdX1_readUnit 56 rfl) ⟨_, rfl, H⟩
  · have H := H.2 c
    refine x_aload_n (x_at tdX1_readUnit 43 rfl) rfl rfl ?_
    refine gfC_37_0 (x_at tdX1_readUnit 44 rfl) wf_X1_9 ?_
    refine x_iconst (x_at tdX1_readUnit 45 rfl) k_c_2 ?_
    refine x_cVi (as := [.int 2]) (rest := []) mi_X7_refuse vc_7 (lC_19 h) (x_at tdX1_readUnit 46 rfl) wm_X1_57 rfl (Nat.le_of_ble_eq_true rfl) rfl H (fun r3 S3 H => ?_)
    exact x_ireturn (ty := .boolean) rfl H.1.1 (x_at tdX1_readUnit 47 rfl) ⟨_, rfl, H.2⟩
theorem e_Fr_readTerm {h : xH} {d : Nat} {x1 : Int32} {S : xSt} {K : Int32 → xSt → Prop}  (H : M_Fr_readUnit h d x1 S (fun (r1 : Int32) (S1 : xSt) => ((¬ r1 = 0 → B_Fr_readTerm_12 h d x1 0 S1 K) ∧ (r1 = 0 → K 0 S1)))) : M_Fr_readTerm h (d + 1) x1 S K := by
  refine x_enter pn_X1 (Nat.le_of_ble_eq_true rfl) ?_
  show X (gC h) _ _ 0 [(0, .ref (x_ad (gC h) 37)), (1, .int x1)] [] S _
  refine x_aload_n (x_at tdX1_readTerm 0 rfl) rfl rfl ?_
  refine x_iload_n (x_at tdX1_readTerm 1 rfl) rfl rfl ?_
  refine x_cVi (as := [.int x1]) (rest := []) mi_X1_readUnit vc_1 (lC_37 h) (x_at tdX1_readTerm 2 rfl) wm_X1_63 rfl (Nat.le_of_ble_eq_true rfl) rfl H (fun r1 S1 H => ?_)
  refine x_if_ne 10 (x_at tdX1_readTerm 3 rfl) rfl (fun c => ?_) (fun c => ?_)
  · have H := H.1 c
    refine x_iconst (x_at tdX1_readTerm 6 rfl) k_c_0 ?_
    refine x_istore_n (x_at tdX1_readTerm 7 rfl) rfl (by decide) ?_
    refine x_weak (lv' := [(0, .ref (x_ad (gC h) 37)), (1, .int x1), (2, .int 0)]) ⟨rfl, rfl, rfl, trivial⟩ ?_
    exact H
  · have H := H.2 c
    refine x_iconst (x_at tdX1_readTerm 4 rfl) k_c_0 ?_
    exact x_ireturn (ty := .boolean) rfl zb0.1 (x_at tdX1_readTerm 5 rfl) ⟨_, rfl, H⟩
theorem b_Fr_readTerm_12 {h : xH} {d : Nat}  {x1 : Int32} {x2 : Int32} {S : xSt} {K : Int32 → xSt → Prop}  (H : ((30 ≤ x2 → K 1 S) ∧ (¬ 30 ≤ x2 → M_Fr_isTermSign h (d + 11) S (fun (r1 : Int32) (S1 : xSt) => ((r1 = 0 → K 1 S1) ∧ (¬ r1 = 0 → M_Tk_advance h (d + 3) S1 (fun (S2 : xSt) => M_Fr_readUnit h d x1 S2 (fun (r3 : Int32) (S3 : xSt) => ((¬ r3 = 0 → M_Wr_put_34 h (d + 12) (S1.1 19 5) S3 (fun (S4 : xSt) => B_Fr_readTerm_12 h d x1 (x2 + 1) S4 K)) ∧ (r3 = 0 → K 0 S3)))))))))) : B_Fr_readTerm_12 h d x1 x2 S K := by
  unfold B_Fr_readTerm_12
  refine x_iload_n (x_at tdX1_readTerm 8 rfl) rfl rfl ?_
  refine x_bipush (x_at tdX1_readTerm 9 rfl) k_b_30 ?_
  refine x_ic_ge 64 (x_at tdX1_readTerm 10 rfl) rfl (fun c => ?_) (fun c => ?_)
  · have H := H.1 c
    refine x_iconst (x_at tdX1_readTerm 33 rfl) k_c_1 ?_
    exact x_ireturn (ty := .boolean) rfl zb1.1 (x_at tdX1_readTerm 34 rfl) ⟨_, rfl, H⟩
  · have H := H.2 c
    refine x_aload_n (x_at tdX1_readTerm 11 rfl) rfl rfl ?_
    refine x_cVi (as := []) (rest := []) mi_X1_isTermSign vc_1 (lC_37 h) (x_at tdX1_readTerm 12 rfl) wm_X1_66 rfl (Nat.le_of_ble_eq_true rfl) rfl H (fun r1 S1 H => ?_)
    refine x_if_eq 64 (x_at tdX1_readTerm 13 rfl) rfl (fun c => ?_) (fun c => ?_)
    · have H := H.1 c
      refine x_iconst (x_at tdX1_readTerm 33 rfl) k_c_1 ?_
      exact x_ireturn (ty := .boolean) rfl zb1.1 (x_at tdX1_readTerm 34 rfl) ⟨_, rfl, H⟩
    · have H := H.2 c
      refine x_aload_n (x_at tdX1_readTerm 14 rfl) rfl rfl ?_
      refine gfC_37_0 (x_at tdX1_readTerm 15 rfl) wf_X1_9 ?_
      refine gfC_19_5 (x_at tdX1_readTerm 16 rfl) wf_X1_53 ?_
      refine x_istore_n (x_at tdX1_readTerm 17 rfl) rfl (by decide) ?_
      refine x_aload_n (x_at tdX1_readTerm 18 rfl) rfl rfl ?_
      refine gfC_37_0 (x_at tdX1_readTerm 19 rfl) wf_X1_9 ?_
      refine x_cVv (as := []) (rest := []) mi_X7_advance vc_7 (lC_19 h) (x_at tdX1_readTerm 20 rfl) wm_X1_31 rfl (Nat.le_of_ble_eq_true rfl) rfl H (fun S2 H => ?_)
      refine x_aload_n (x_at tdX1_readTerm 21 rfl) rfl rfl ?_
      refine x_iload_n (x_at tdX1_readTerm 22 rfl) rfl rfl ?_
      refine x_cVi (as := [.int x1]) (rest := []) mi_X1_readUnit vc_1 (lC_37 h) (x_at tdX1_readTerm 23 rfl) wm_X1_63 rfl (Nat.le_of_ble_eq_true rfl) rfl H (fun r3 S3 H => ?_)
      refine x_if_ne 50 (x_at tdX1_readTerm 24 rfl) rfl (fun c => ?_) (fun c => ?_)
      · have H := H.1 c
        refine x_aload_n (x_at tdX1_readTerm 27 rfl) rfl rfl ?_
        refine gfC_37_1 (x_at tdX1_readTerm 28 rfl) wf_X1_15 ?_
        refine x_iload_n (x_at tdX1_readTerm 29 rfl) rfl rfl ?_
        refine x_cVv (as := [.int (S1.1 19 5)]) (rest := []) mi_X10_put vc_10 (lC_34 h) (x_at tdX1_readTerm 30 rfl) wm_X1_36 rfl (Nat.le_of_ble_eq_true rfl) rfl H (fun S4 H => ?_)
        refine x_iinc (x_at tdX1_readTerm 31 rfl) rfl (k_inc_1 _) (by decide) ?_
        refine x_goto 12 (x_at tdX1_readTerm 32 rfl) rfl ?_
        refine x_weak (lv' := [(0, .ref (x_ad (gC h) 37)), (1, .int x1), (2, .int (x2 + 1))]) ⟨rfl, rfl, rfl, trivial⟩ ?_
        exact H
      · have H := H.2 c
        refine x_iconst (x_at tdX1_readTerm 25 rfl) k_c_0 ?_
        exact x_ireturn (ty := .boolean) rfl zb0.1 (x_at tdX1_readTerm 26 rfl) ⟨_, rfl, H⟩
theorem e_Fr_readSum {h : xH} {d : Nat} {x1 : Int32} {S : xSt} {K : Int32 → xSt → Prop}  (H : M_Fr_readTerm h d x1 S (fun (r1 : Int32) (S1 : xSt) => ((¬ r1 = 0 → B_Fr_readSum_12 h d x1 0 S1 K) ∧ (r1 = 0 → K 0 S1)))) : M_Fr_readSum h (d + 1) x1 S K := by
  refine x_enter pn_X1 (Nat.le_of_ble_eq_true rfl) ?_
  show X (gC h) _ _ 0 [(0, .ref (x_ad (gC h) 37)), (1, .int x1)] [] S _
  refine x_aload_n (x_at tdX1_readSum 0 rfl) rfl rfl ?_
  refine x_iload_n (x_at tdX1_readSum 1 rfl) rfl rfl ?_
  refine x_cVi (as := [.int x1]) (rest := []) mi_X1_readTerm vc_1 (lC_37 h) (x_at tdX1_readSum 2 rfl) wm_X1_60 rfl (Nat.le_of_ble_eq_true rfl) rfl H (fun r1 S1 H => ?_)
  refine x_if_ne 10 (x_at tdX1_readSum 3 rfl) rfl (fun c => ?_) (fun c => ?_)
  · have H := H.1 c
    refine x_iconst (x_at tdX1_readSum 6 rfl) k_c_0 ?_
    refine x_istore_n (x_at tdX1_readSum 7 rfl) rfl (by decide) ?_
    refine x_weak (lv' := [(0, .ref (x_ad (gC h) 37)), (1, .int x1), (2, .int 0)]) ⟨rfl, rfl, rfl, trivial⟩ ?_
    exact H
  · have H := H.2 c
    refine x_iconst (x_at tdX1_readSum 4 rfl) k_c_0 ?_
    exact x_ireturn (ty := .boolean) rfl zb0.1 (x_at tdX1_readSum 5 rfl) ⟨_, rfl, H⟩
theorem b_Fr_readSum_12 {h : xH} {d : Nat}  {x1 : Int32} {x2 : Int32} {S : xSt} {K : Int32 → xSt → Prop}  (H : ((30 ≤ x2 → K 1 S) ∧ (¬ 30 ≤ x2 → M_Tk_isSign h (d + 12) 43 S (fun (r1 : Int32) (S1 : xSt) => ((¬ r1 = 0 → B_Fr_readSum_42 h d x1 x2 S1 K) ∧ (r1 = 0 → M_Tk_isSign h (d + 12) 45 S1 (fun (r2 : Int32) (S2 : xSt) => ((r2 = 0 → K 1 S2) ∧ (¬ r2 = 0 → B_Fr_readSum_42 h d x1 x2 S2 K))))))))) : B_Fr_readSum_12 h d x1 x2 S K := by
  unfold B_Fr_readSum_12
  refine x_iload_n (x_at tdX1_readSum 8 rfl) rfl rfl ?_
  refine x_bipush (x_at tdX1_readSum 9 rfl) k_b_30 ?_
  refine x_ic_ge 81 (x_at tdX1_readSum 10 rfl) rfl (fun c => ?_) (fun c => ?_)
  · have H := H.1 c
    refine x_iconst (x_at tdX1_readSum 40 rfl) k_c_1 ?_
    exact x_ireturn (ty := .boolean) rfl zb1.1 (x_at tdX1_readSum 41 rfl) ⟨_, rfl, H⟩
  · have H := H.2 c
    refine x_aload_n (x_at tdX1_readSum 11 rfl) rfl rfl ?_
    refine gfC_37_0 (x_at tdX1_readSum 12 rfl) wf_X1_9 ?_
    refine x_bipush (x_at tdX1_readSum 13 rfl) k_b_43 ?_
    refine x_cVi (as := [.int 43]) (rest := []) mi_X7_isSign vc_7 (lC_19 h) (x_at tdX1_readSum 14 rfl) wm_X1_49 rfl (Nat.le_of_ble_eq_true rfl) rfl H (fun r1 S1 H => ?_)
    refine x_if_ne 42 (x_at tdX1_readSum 15 rfl) rfl (fun c => ?_) (fun c => ?_)
    · have H := H.1 c
      refine x_weak (lv' := [(0, .ref (x_ad (gC h) 37)), (1, .int x1), (2, .int x2)]) ⟨rfl, rfl, rfl, trivial⟩ ?_
      exact H
    · have H := H.2 c
      refine x_aload_n (x_at tdX1_readSum 16 rfl) rfl rfl ?_
      refine gfC_37_0 (x_at tdX1_readSum 17 rfl) wf_X1_9 ?_
      refine x_bipush (x_at tdX1_readSum 18 rfl) k_b_45 ?_
      refine x_cVi (as := [.int 45]) (rest := []) mi_X7_isSign vc_7 (lC_19 h) (x_at tdX1_readSum 19 rfl) wm_X1_49 rfl (Nat.le_of_ble_eq_true rfl) rfl H (fun r2 S2 H => ?_)
      refine x_if_eq 81 (x_at tdX1_readSum 20 rfl) rfl (fun c => ?_) (fun c => ?_)
      · have H := H.1 c
        refine x_iconst (x_at tdX1_readSum 40 rfl) k_c_1 ?_
        exact x_ireturn (ty := .boolean) rfl zb1.1 (x_at tdX1_readSum 41 rfl) ⟨_, rfl, H⟩
      · have H := H.2 c
        refine x_weak (lv' := [(0, .ref (x_ad (gC h) 37)), (1, .int x1), (2, .int x2)]) ⟨rfl, rfl, rfl, trivial⟩ ?_
        exact H
theorem b_Fr_readSum_42 {h : xH} {d : Nat}  {x1 : Int32} {x2 : Int32} {S : xSt} {K : Int32 → xSt → Prop}  (H : M_Tk_advance h (d + 3) S (fun (S1 : xSt) => M_Fr_readTerm h d x1 S1 (fun (r2 : Int32) (S2 : xSt) => ((¬ r2 = 0 → M_Wr_put_34 h (d + 12) (S.1 19 5) S2 (fun (S3 : xSt) => B_Fr_readSum_12 h d x1 (x2 + 1) S3 K)) ∧ (r2 = 0 → K 0 S2))))) : B_Fr_readSum_42 h d x1 x2 S K := by
  unfold B_Fr_readSum_42
  refine x_aload_n (x_at tdX1_readSum 21 rfl) rfl rfl ?_
  refine gfC_37_0 (x_at tdX1_readSum 22 rfl) wf_X1_9 ?_
  refine gfC_19_5 (x_at tdX1_readSum 23 rfl) wf_X1_53 ?_
  refine x_istore_n (x_at tdX1_readSum 24 rfl) rfl (by decide) ?_
  refine x_aload_n (x_at tdX1_readSum 25 rfl) rfl rfl ?_
  refine gfC_37_0 (x_at tdX1_readSum 26 rfl) wf_X1_9 ?_
  refine x_cVv (as := []) (rest := []) mi_X7_advance vc_7 (lC_19 h) (x_at tdX1_readSum 27 rfl) wm_X1_31 rfl (Nat.le_of_ble_eq_true rfl) rfl H (fun S1 H => ?_)
  refine x_aload_n (x_at tdX1_readSum 28 rfl) rfl rfl ?_
  refine x_iload_n (x_at tdX1_readSum 29 rfl) rfl rfl ?_
  refine x_cVi (as := [.int x1]) (rest := []) mi_X1_readTerm vc_1 (lC_37 h) (x_at tdX1_readSum 30 rfl) wm_X1_60 rfl (Nat.le_of_ble_eq_true rfl) rfl H (fun r2 S2 H => ?_)
  refine x_if_ne 67 (x_at tdX1_readSum 31 rfl) rfl (fun c => ?_) (fun c => ?_)
  · have H := H.1 c
    refine x_aload_n (x_at tdX1_readSum 34 rfl) rfl rfl ?_
    refine gfC_37_1 (x_at tdX1_readSum 35 rfl) wf_X1_15 ?_
    refine x_iload_n (x_at tdX1_readSum 36 rfl) rfl rfl ?_
    refine x_cVv (as := [.int (S.1 19 5)]) (rest := []) mi_X10_put vc_10 (lC_34 h) (x_at tdX1_readSum 37 rfl) wm_X1_36 rfl (Nat.le_of_ble_eq_true rfl) rfl H (fun S3 H => ?_)
    refine x_iinc (x_at tdX1_readSum 38 rfl) rfl (k_inc_1 _) (by decide) ?_
    refine x_goto 12 (x_at tdX1_readSum 39 rfl) rfl ?_
    refine x_weak (lv' := [(0, .ref (x_ad (gC h) 37)), (1, .int x1), (2, .int (x2 + 1))]) ⟨rfl, rfl, rfl, trivial⟩ ?_
    exact H
  · have H := H.2 c
    refine x_iconst (x_at tdX1_readSum 32 rfl) k_c_0 ?_
    exact x_ireturn (ty := .boolean) rfl zb0.1 (x_at tdX1_readSum 33 rfl) ⟨_, rfl, H⟩
theorem e_Tk_isWord {h : xH} {d : Nat} {x1 : Int32} {S : xSt} {K : Int32 → xSt → Prop}  (H : ((¬ (S.1 19 4) = 3 → K 0 S) ∧ ((S.1 19 4) = 3 → ((¬ (S.1 19 5) = x1 → K 0 S) ∧ ((S.1 19 5) = x1 → K 1 S))))) : M_Tk_isWord h d x1 S K := by
  refine x_enter pn_X7 (Nat.le_of_ble_eq_true rfl) ?_
  show X (gC h) _ _ 0 [(0, .ref (x_ad (gC h) 19)), (1, .int x1)] [] S _
  refine x_aload_n (x_at tdX7_isWord 0 rfl) rfl rfl ?_
  refine gfC_19_4 (x_at tdX7_isWord 1 rfl) wf_X7_40 ?_
  refine x_iconst (x_at tdX7_isWord 2 rfl) k_c_3 ?_
  refine x_ic_ne 20 (x_at tdX7_isWord 3 rfl) rfl (fun c => ?_) (fun c => ?_)
  · have H := H.1 c
    refine x_iconst (x_at tdX7_isWord 10 rfl) k_c_0 ?_
    exact x_ireturn (ty := .boolean) rfl zb0.1 (x_at tdX7_isWord 11 rfl) ⟨_, rfl, H⟩
  · have H := H.2 c
    refine x_aload_n (x_at tdX7_isWord 4 rfl) rfl rfl ?_
    refine gfC_19_5 (x_at tdX7_isWord 5 rfl) wf_X7_54 ?_
    refine x_iload_n (x_at tdX7_isWord 6 rfl) rfl rfl ?_
    refine x_ic_ne 20 (x_at tdX7_isWord 7 rfl) rfl (fun c => ?_) (fun c => ?_)
    · have H := H.1 c
      refine x_iconst (x_at tdX7_isWord 10 rfl) k_c_0 ?_
      exact x_ireturn (ty := .boolean) rfl zb0.1 (x_at tdX7_isWord 11 rfl) ⟨_, rfl, H⟩
    · have H := H.2 c
      refine x_iconst (x_at tdX7_isWord 8 rfl) k_c_1 ?_
      refine x_goto 21 (x_at tdX7_isWord 9 rfl) rfl ?_
      exact x_ireturn (ty := .boolean) rfl zb1.1 (x_at tdX7_isWord 11 rfl) ⟨_, rfl, H⟩
theorem e_Fr_readOne {h : xH} {d : Nat} {x1 : Int32} {S : xSt} {K : Int32 → xSt → Prop}  (H : M_Tk_isWord h (d + 12) 21 S (fun (r1 : Int32) (S1 : xSt) => ((r1 = 0 → M_Fr_readSum h d x1 S1 (fun (r2 : Int32) (S2 : xSt) => ((¬ r2 = 0 → M_Tk_isSign h (d + 12) 60 S2 (fun (r3 : Int32) (S3 : xSt) => ((¬ r3 = 0 → B_Fr_readOne_66 h d x1 S3 K) ∧ (r3 = 0 → M_Tk_isSign h (d + 12) 62 S3 (fun (r4 : Int32) (S4 : xSt) => ((¬ r4 = 0 → B_Fr_readOne_66 h d x1 S4 K) ∧ (r4 = 0 → M_Tk_isSign h (d + 12) 61 S4 (fun (r5 : Int32) (S5 : xSt) => ((¬ r5 = 0 → B_Fr_readOne_66 h d x1 S5 K) ∧ (r5 = 0 → K 1 S5)))))))))) ∧ (r2 = 0 → K 0 S2)))) ∧ (¬ r1 = 0 → M_Fr_readNot h d x1 S1 (fun (r6 : Int32) (S6 : xSt) => (zb r6 ∧ K r6 S6)))))) : M_Fr_readOne h (d + 1) x1 S K := by
  refine x_enter pn_X1 (Nat.le_of_ble_eq_true rfl) ?_
  show X (gC h) _ _ 0 [(0, .ref (x_ad (gC h) 37)), (1, .int x1)] [] S _
  refine x_aload_n (x_at tdX1_readOne 0 rfl) rfl rfl ?_
  refine gfC_37_0 (x_at tdX1_readOne 1 rfl) wf_X1_9 ?_
  refine x_bipush (x_at tdX1_readOne 2 rfl) k_b_21 ?_
  refine x_cVi (as := [.int 21]) (rest := []) mi_X7_isWord vc_7 (lC_19 h) (x_at tdX1_readOne 3 rfl) wm_X1_28 rfl (Nat.le_of_ble_eq_true rfl) rfl H (fun r1 S1 H => ?_)
  refine x_if_eq 18 (x_at tdX1_readOne 4 rfl) rfl (fun c => ?_) (fun c => ?_)
  · have H := H.1 c
    refine x_aload_n (x_at tdX1_readOne 9 rfl) rfl rfl ?_
    refine x_iload_n (x_at tdX1_readOne 10 rfl) rfl rfl ?_
    refine x_cVi (as := [.int x1]) (rest := []) mi_X1_readSum vc_1 (lC_37 h) (x_at tdX1_readOne 11 rfl) wm_X1_46 rfl (Nat.le_of_ble_eq_true rfl) rfl H (fun r2 S2 H => ?_)
    refine x_if_ne 28 (x_at tdX1_readOne 12 rfl) rfl (fun c => ?_) (fun c => ?_)
    · have H := H.1 c
      refine x_aload_n (x_at tdX1_readOne 15 rfl) rfl rfl ?_
      refine gfC_37_0 (x_at tdX1_readOne 16 rfl) wf_X1_9 ?_
      refine x_bipush (x_at tdX1_readOne 17 rfl) k_b_60 ?_
      refine x_cVi (as := [.int 60]) (rest := []) mi_X7_isSign vc_7 (lC_19 h) (x_at tdX1_readOne 18 rfl) wm_X1_49 rfl (Nat.le_of_ble_eq_true rfl) rfl H (fun r3 S3 H => ?_)
      refine x_if_ne 66 (x_at tdX1_readOne 19 rfl) rfl (fun c => ?_) (fun c => ?_)
      · have H := H.1 c
        refine x_weak (lv' := [(0, .ref (x_ad (gC h) 37)), (1, .int x1)]) ⟨rfl, rfl, trivial⟩ ?_
        exact H
      · have H := H.2 c
        refine x_aload_n (x_at tdX1_readOne 20 rfl) rfl rfl ?_
        refine gfC_37_0 (x_at tdX1_readOne 21 rfl) wf_X1_9 ?_
        refine x_bipush (x_at tdX1_readOne 22 rfl) k_b_62 ?_
        refine x_cVi (as := [.int 62]) (rest := []) mi_X7_isSign vc_7 (lC_19 h) (x_at tdX1_readOne 23 rfl) wm_X1_49 rfl (Nat.le_of_ble_eq_true rfl) rfl H (fun r4 S4 H => ?_)
        refine x_if_ne 66 (x_at tdX1_readOne 24 rfl) rfl (fun c => ?_) (fun c => ?_)
        · have H := H.1 c
          refine x_weak (lv' := [(0, .ref (x_ad (gC h) 37)), (1, .int x1)]) ⟨rfl, rfl, trivial⟩ ?_
          exact H
        · have H := H.2 c
          refine x_aload_n (x_at tdX1_readOne 25 rfl) rfl rfl ?_
          refine gfC_37_0 (x_at tdX1_readOne 26 rfl) wf_X1_9 ?_
          refine x_bipush (x_at tdX1_readOne 27 rfl) k_b_61 ?_
          refine x_cVi (as := [.int 61]) (rest := []) mi_X7_isSign vc_7 (lC_19 h) (x_at tdX1_readOne 28 rfl) wm_X1_49 rfl (Nat.le_of_ble_eq_true rfl) rfl H (fun r5 S5 H => ?_)
          refine x_if_ne 66 (x_at tdX1_readOne 29 rfl) rfl (fun c => ?_) (fun c => ?_)
          · have H := H.1 c
            refine x_weak (lv' := [(0, .ref (x_ad (gC h) 37)), (1, .int x1)]) ⟨rfl, rfl, trivial⟩ ?_
            exact H
          · have H := H.2 c
            refine x_iconst (x_at tdX1_readOne 30 rfl) k_c_1 ?_
            exact x_ireturn (ty := .boolean) rfl zb1.1 (x_at tdX1_readOne 31 rfl) ⟨_, rfl, H⟩
    · have H := H.2 c
      refine x_iconst (x_at tdX1_readOne 13 rfl) k_c_0 ?_
      exact x_ireturn (ty := .boolean) rfl zb0.1 (x_at tdX1_readOne 14 rfl) ⟨_, rfl, H⟩
  · have H := H.2 c
    refine x_aload_n (x_at tdX1_readOne 5 rfl) rfl rfl ?_
    refine x_iload_n (x_at tdX1_readOne 6 rfl) rfl rfl ?_
    refine x_cVi (as := [.int x1]) (rest := []) mi_X1_readNot vc_1 (lC_37 h) (x_at tdX1_readOne 7 rfl) wm_X1_43 rfl (Nat.le_of_ble_eq_true rfl) rfl H (fun r6 S6 H => ?_)
    exact x_ireturn (ty := .boolean) rfl H.1.1 (x_at tdX1_readOne 8 rfl) ⟨_, rfl, H.2⟩
theorem b_Fr_readOne_66 {h : xH} {d : Nat}  {x1 : Int32} {S : xSt} {K : Int32 → xSt → Prop}  (H : M_Tk_advance h (d + 3) S (fun (S1 : xSt) => M_Fr_readSum h d x1 S1 (fun (r2 : Int32) (S2 : xSt) => ((¬ r2 = 0 → M_Wr_put_34 h (d + 12) (S.1 19 5) S2 (fun (S3 : xSt) => K 1 S3)) ∧ (r2 = 0 → K 0 S2))))) : B_Fr_readOne_66 h d x1 S K := by
  unfold B_Fr_readOne_66
  refine x_aload_n (x_at tdX1_readOne 32 rfl) rfl rfl ?_
  refine gfC_37_0 (x_at tdX1_readOne 33 rfl) wf_X1_9 ?_
  refine gfC_19_5 (x_at tdX1_readOne 34 rfl) wf_X1_53 ?_
  refine x_istore_n (x_at tdX1_readOne 35 rfl) rfl (by decide) ?_
  refine x_aload_n (x_at tdX1_readOne 36 rfl) rfl rfl ?_
  refine gfC_37_0 (x_at tdX1_readOne 37 rfl) wf_X1_9 ?_
  refine x_cVv (as := []) (rest := []) mi_X7_advance vc_7 (lC_19 h) (x_at tdX1_readOne 38 rfl) wm_X1_31 rfl (Nat.le_of_ble_eq_true rfl) rfl H (fun S1 H => ?_)
  refine x_aload_n (x_at tdX1_readOne 39 rfl) rfl rfl ?_
  refine x_iload_n (x_at tdX1_readOne 40 rfl) rfl rfl ?_
  refine x_cVi (as := [.int x1]) (rest := []) mi_X1_readSum vc_1 (lC_37 h) (x_at tdX1_readOne 41 rfl) wm_X1_46 rfl (Nat.le_of_ble_eq_true rfl) rfl H (fun r2 S2 H => ?_)
  refine x_if_ne 91 (x_at tdX1_readOne 42 rfl) rfl (fun c => ?_) (fun c => ?_)
  · have H := H.1 c
    refine x_aload_n (x_at tdX1_readOne 45 rfl) rfl rfl ?_
    refine gfC_37_1 (x_at tdX1_readOne 46 rfl) wf_X1_15 ?_
    refine x_iload_n (x_at tdX1_readOne 47 rfl) rfl rfl ?_
    refine x_cVv (as := [.int (S.1 19 5)]) (rest := []) mi_X10_put vc_10 (lC_34 h) (x_at tdX1_readOne 48 rfl) wm_X1_36 rfl (Nat.le_of_ble_eq_true rfl) rfl H (fun S3 H => ?_)
    refine x_iconst (x_at tdX1_readOne 49 rfl) k_c_1 ?_
    exact x_ireturn (ty := .boolean) rfl zb1.1 (x_at tdX1_readOne 50 rfl) ⟨_, rfl, H⟩
  · have H := H.2 c
    refine x_iconst (x_at tdX1_readOne 43 rfl) k_c_0 ?_
    exact x_ireturn (ty := .boolean) rfl zb0.1 (x_at tdX1_readOne 44 rfl) ⟨_, rfl, H⟩
theorem e_Fr_readBoth {h : xH} {d : Nat} {x1 : Int32} {S : xSt} {K : Int32 → xSt → Prop}  (H : M_Fr_readOne h d x1 S (fun (r1 : Int32) (S1 : xSt) => ((¬ r1 = 0 → B_Fr_readBoth_12 h d x1 0 S1 K) ∧ (r1 = 0 → K 0 S1)))) : M_Fr_readBoth h (d + 1) x1 S K := by
  refine x_enter pn_X1 (Nat.le_of_ble_eq_true rfl) ?_
  show X (gC h) _ _ 0 [(0, .ref (x_ad (gC h) 37)), (1, .int x1)] [] S _
  refine x_aload_n (x_at tdX1_readBoth 0 rfl) rfl rfl ?_
  refine x_iload_n (x_at tdX1_readBoth 1 rfl) rfl rfl ?_
  refine x_cVi (as := [.int x1]) (rest := []) mi_X1_readOne vc_1 (lC_37 h) (x_at tdX1_readBoth 2 rfl) wm_X1_40 rfl (Nat.le_of_ble_eq_true rfl) rfl H (fun r1 S1 H => ?_)
  refine x_if_ne 10 (x_at tdX1_readBoth 3 rfl) rfl (fun c => ?_) (fun c => ?_)
  · have H := H.1 c
    refine x_iconst (x_at tdX1_readBoth 6 rfl) k_c_0 ?_
    refine x_istore_n (x_at tdX1_readBoth 7 rfl) rfl (by decide) ?_
    refine x_weak (lv' := [(0, .ref (x_ad (gC h) 37)), (1, .int x1), (2, .int 0)]) ⟨rfl, rfl, rfl, trivial⟩ ?_
    exact H
  · have H := H.2 c
    refine x_iconst (x_at tdX1_readBoth 4 rfl) k_c_0 ?_
    exact x_ireturn (ty := .boolean) rfl zb0.1 (x_at tdX1_readBoth 5 rfl) ⟨_, rfl, H⟩
theorem b_Fr_readBoth_12 {h : xH} {d : Nat}  {x1 : Int32} {x2 : Int32} {S : xSt} {K : Int32 → xSt → Prop}  (H : ((30 ≤ x2 → K 1 S) ∧ (¬ 30 ≤ x2 → M_Tk_isWord h (d + 12) 20 S (fun (r1 : Int32) (S1 : xSt) => ((r1 = 0 → K 1 S1) ∧ (¬ r1 = 0 → M_Tk_advance h (d + 3) S1 (fun (S2 : xSt) => M_Fr_readOne h d x1 S2 (fun (r3 : Int32) (S3 : xSt) => ((¬ r3 = 0 → M_Wr_put_34 h (d + 12) 38 S3 (fun (S4 : xSt) => B_Fr_readBoth_12 h d x1 (x2 + 1) S4 K)) ∧ (r3 = 0 → K 0 S3)))))))))) : B_Fr_readBoth_12 h d x1 x2 S K := by
  unfold B_Fr_readBoth_12
  refine x_iload_n (x_at tdX1_readBoth 8 rfl) rfl rfl ?_
  refine x_bipush (x_at tdX1_readBoth 9 rfl) k_b_30 ?_
  refine x_ic_ge 62 (x_at tdX1_readBoth 10 rfl) rfl (fun c => ?_) (fun c => ?_)
  · have H := H.1 c
    refine x_iconst (x_at tdX1_readBoth 31 rfl) k_c_1 ?_
    exact x_ireturn (ty := .boolean) rfl zb1.1 (x_at tdX1_readBoth 32 rfl) ⟨_, rfl, H⟩
  · have H := H.2 c
    refine x_aload_n (x_at tdX1_readBoth 11 rfl) rfl rfl ?_
    refine gfC_37_0 (x_at tdX1_readBoth 12 rfl) wf_X1_9 ?_
    refine x_bipush (x_at tdX1_readBoth 13 rfl) k_b_20 ?_
    refine x_cVi (as := [.int 20]) (rest := []) mi_X7_isWord vc_7 (lC_19 h) (x_at tdX1_readBoth 14 rfl) wm_X1_28 rfl (Nat.le_of_ble_eq_true rfl) rfl H (fun r1 S1 H => ?_)
    refine x_if_eq 62 (x_at tdX1_readBoth 15 rfl) rfl (fun c => ?_) (fun c => ?_)
    · have H := H.1 c
      refine x_iconst (x_at tdX1_readBoth 31 rfl) k_c_1 ?_
      exact x_ireturn (ty := .boolean) rfl zb1.1 (x_at tdX1_readBoth 32 rfl) ⟨_, rfl, H⟩
    · have H := H.2 c
      refine x_aload_n (x_at tdX1_readBoth 16 rfl) rfl rfl ?_
      refine gfC_37_0 (x_at tdX1_readBoth 17 rfl) wf_X1_9 ?_
      refine x_cVv (as := []) (rest := []) mi_X7_advance vc_7 (lC_19 h) (x_at tdX1_readBoth 18 rfl) wm_X1_31 rfl (Nat.le_of_ble_eq_true rfl) rfl H (fun S2 H => ?_)
      refine x_aload_n (x_at tdX1_readBoth 19 rfl) rfl rfl ?_
      refine x_iload_n (x_at tdX1_readBoth 20 rfl) rfl rfl ?_
      refine x_cVi (as := [.int x1]) (rest := []) mi_X1_readOne vc_1 (lC_37 h) (x_at tdX1_readBoth 21 rfl) wm_X1_40 rfl (Nat.le_of_ble_eq_true rfl) rfl H (fun r3 S3 H => ?_)
      refine x_if_ne 47 (x_at tdX1_readBoth 22 rfl) rfl (fun c => ?_) (fun c => ?_)
      · have H := H.1 c
        refine x_aload_n (x_at tdX1_readBoth 25 rfl) rfl rfl ?_
        refine gfC_37_1 (x_at tdX1_readBoth 26 rfl) wf_X1_15 ?_
        refine x_bipush (x_at tdX1_readBoth 27 rfl) k_b_38 ?_
        refine x_cVv (as := [.int 38]) (rest := []) mi_X10_put vc_10 (lC_34 h) (x_at tdX1_readBoth 28 rfl) wm_X1_36 rfl (Nat.le_of_ble_eq_true rfl) rfl H (fun S4 H => ?_)
        refine x_iinc (x_at tdX1_readBoth 29 rfl) rfl (k_inc_1 _) (by decide) ?_
        refine x_goto 12 (x_at tdX1_readBoth 30 rfl) rfl ?_
        refine x_weak (lv' := [(0, .ref (x_ad (gC h) 37)), (1, .int x1), (2, .int (x2 + 1))]) ⟨rfl, rfl, rfl, trivial⟩ ?_
        exact H
      · have H := H.2 c
        refine x_iconst (x_at tdX1_readBoth 23 rfl) k_c_0 ?_
        exact x_ireturn (ty := .boolean) rfl zb0.1 (x_at tdX1_readBoth 24 rfl) ⟨_, rfl, H⟩
theorem e_Fr_readEither {h : xH} {d : Nat} {x1 : Int32} {S : xSt} {K : Int32 → xSt → Prop}  (H : M_Fr_readBoth h d x1 S (fun (r1 : Int32) (S1 : xSt) => ((¬ r1 = 0 → B_Fr_readEither_12 h d x1 0 S1 K) ∧ (r1 = 0 → K 0 S1)))) : M_Fr_readEither h (d + 1) x1 S K := by
  refine x_enter pn_X1 (Nat.le_of_ble_eq_true rfl) ?_
  show X (gC h) _ _ 0 [(0, .ref (x_ad (gC h) 37)), (1, .int x1)] [] S _
  refine x_aload_n (x_at tdX1_readEither 0 rfl) rfl rfl ?_
  refine x_iload_n (x_at tdX1_readEither 1 rfl) rfl rfl ?_
  refine x_cVi (as := [.int x1]) (rest := []) mi_X1_readBoth vc_1 (lC_37 h) (x_at tdX1_readEither 2 rfl) wm_X1_23 rfl (Nat.le_of_ble_eq_true rfl) rfl H (fun r1 S1 H => ?_)
  refine x_if_ne 10 (x_at tdX1_readEither 3 rfl) rfl (fun c => ?_) (fun c => ?_)
  · have H := H.1 c
    refine x_iconst (x_at tdX1_readEither 6 rfl) k_c_0 ?_
    refine x_istore_n (x_at tdX1_readEither 7 rfl) rfl (by decide) ?_
    refine x_weak (lv' := [(0, .ref (x_ad (gC h) 37)), (1, .int x1), (2, .int 0)]) ⟨rfl, rfl, rfl, trivial⟩ ?_
    exact H
  · have H := H.2 c
    refine x_iconst (x_at tdX1_readEither 4 rfl) k_c_0 ?_
    exact x_ireturn (ty := .boolean) rfl zb0.1 (x_at tdX1_readEither 5 rfl) ⟨_, rfl, H⟩
theorem b_Fr_readEither_12 {h : xH} {d : Nat}  {x1 : Int32} {x2 : Int32} {S : xSt} {K : Int32 → xSt → Prop}  (H : ((30 ≤ x2 → K 1 S) ∧ (¬ 30 ≤ x2 → M_Tk_isWord h (d + 12) 19 S (fun (r1 : Int32) (S1 : xSt) => ((r1 = 0 → K 1 S1) ∧ (¬ r1 = 0 → M_Tk_advance h (d + 3) S1 (fun (S2 : xSt) => M_Fr_readBoth h d x1 S2 (fun (r3 : Int32) (S3 : xSt) => ((¬ r3 = 0 → M_Wr_put_34 h (d + 12) 124 S3 (fun (S4 : xSt) => B_Fr_readEither_12 h d x1 (x2 + 1) S4 K)) ∧ (r3 = 0 → K 0 S3)))))))))) : B_Fr_readEither_12 h d x1 x2 S K := by
  unfold B_Fr_readEither_12
  refine x_iload_n (x_at tdX1_readEither 8 rfl) rfl rfl ?_
  refine x_bipush (x_at tdX1_readEither 9 rfl) k_b_30 ?_
  refine x_ic_ge 62 (x_at tdX1_readEither 10 rfl) rfl (fun c => ?_) (fun c => ?_)
  · have H := H.1 c
    refine x_iconst (x_at tdX1_readEither 31 rfl) k_c_1 ?_
    exact x_ireturn (ty := .boolean) rfl zb1.1 (x_at tdX1_readEither 32 rfl) ⟨_, rfl, H⟩
  · have H := H.2 c
    refine x_aload_n (x_at tdX1_readEither 11 rfl) rfl rfl ?_
    refine gfC_37_0 (x_at tdX1_readEither 12 rfl) wf_X1_9 ?_
    refine x_bipush (x_at tdX1_readEither 13 rfl) k_b_19 ?_
    refine x_cVi (as := [.int 19]) (rest := []) mi_X7_isWord vc_7 (lC_19 h) (x_at tdX1_readEither 14 rfl) wm_X1_28 rfl (Nat.le_of_ble_eq_true rfl) rfl H (fun r1 S1 H => ?_)
    refine x_if_eq 62 (x_at tdX1_readEither 15 rfl) rfl (fun c => ?_) (fun c => ?_)
    · have H := H.1 c
      refine x_iconst (x_at tdX1_readEither 31 rfl) k_c_1 ?_
      exact x_ireturn (ty := .boolean) rfl zb1.1 (x_at tdX1_readEither 32 rfl) ⟨_, rfl, H⟩
    · have H := H.2 c
      refine x_aload_n (x_at tdX1_readEither 16 rfl) rfl rfl ?_
      refine gfC_37_0 (x_at tdX1_readEither 17 rfl) wf_X1_9 ?_
      refine x_cVv (as := []) (rest := []) mi_X7_advance vc_7 (lC_19 h) (x_at tdX1_readEither 18 rfl) wm_X1_31 rfl (Nat.le_of_ble_eq_true rfl) rfl H (fun S2 H => ?_)
      refine x_aload_n (x_at tdX1_readEither 19 rfl) rfl rfl ?_
      refine x_iload_n (x_at tdX1_readEither 20 rfl) rfl rfl ?_
      refine x_cVi (as := [.int x1]) (rest := []) mi_X1_readBoth vc_1 (lC_37 h) (x_at tdX1_readEither 21 rfl) wm_X1_23 rfl (Nat.le_of_ble_eq_true rfl) rfl H (fun r3 S3 H => ?_)
      refine x_if_ne 47 (x_at tdX1_readEither 22 rfl) rfl (fun c => ?_) (fun c => ?_)
      · have H := H.1 c
        refine x_aload_n (x_at tdX1_readEither 25 rfl) rfl rfl ?_
        refine gfC_37_1 (x_at tdX1_readEither 26 rfl) wf_X1_15 ?_
        refine x_bipush (x_at tdX1_readEither 27 rfl) k_b_124 ?_
        refine x_cVv (as := [.int 124]) (rest := []) mi_X10_put vc_10 (lC_34 h) (x_at tdX1_readEither 28 rfl) wm_X1_36 rfl (Nat.le_of_ble_eq_true rfl) rfl H (fun S4 H => ?_)
        refine x_iinc (x_at tdX1_readEither 29 rfl) rfl (k_inc_1 _) (by decide) ?_
        refine x_goto 12 (x_at tdX1_readEither 30 rfl) rfl ?_
        refine x_weak (lv' := [(0, .ref (x_ad (gC h) 37)), (1, .int x1), (2, .int (x2 + 1))]) ⟨rfl, rfl, rfl, trivial⟩ ?_
        exact H
      · have H := H.2 c
        refine x_iconst (x_at tdX1_readEither 23 rfl) k_c_0 ?_
        exact x_ireturn (ty := .boolean) rfl zb0.1 (x_at tdX1_readEither 24 rfl) ⟨_, rfl, H⟩
theorem e_Fr_readFormula {h : xH} {d : Nat}  {S : xSt} {K : Int32 → xSt → Prop}  (H : M_Fr_readEither h (d + 64) 0 S (fun (r1 : Int32) (S1 : xSt) => (zb r1 ∧ K r1 S1))) : M_Fr_readFormula h d S K := by
  refine x_enter pn_X1 (Nat.le_of_ble_eq_true rfl) ?_
  show X (gC h) _ _ 0 [(0, .ref (x_ad (gC h) 37))] [] S _
  refine x_aload_n (x_at tdX1_readFormula 0 rfl) rfl rfl ?_
  refine x_iconst (x_at tdX1_readFormula 1 rfl) k_c_0 ?_
  refine x_cVi (as := [.int 0]) (rest := []) mi_X1_readEither vc_1 (lC_37 h) (x_at tdX1_readFormula 2 rfl) wm_X1_19 rfl (Nat.le_of_ble_eq_true rfl) rfl H (fun r1 S1 H => ?_)
  exact x_ireturn (ty := .boolean) rfl H.1.1 (x_at tdX1_readFormula 3 rfl) ⟨_, rfl, H.2⟩
theorem e_Rd_opensOnce {h : xH} {d : Nat}  {S : xSt} {K : Int32 → xSt → Prop}  (H : ((((S.1 18 6) &&& ((1 : Int32) <<< ((S.1 19 5) &&& 31))) = 0 → M_Tk_advance h d (x_putI S 18 6 ((S.1 18 6) ||| ((1 : Int32) <<< ((S.1 19 5) &&& 31)))) (fun (S1 : xSt) => K 1 S1)) ∧ (¬ ((S.1 18 6) &&& ((1 : Int32) <<< ((S.1 19 5) &&& 31))) = 0 → M_Tk_refuse h (d + 8) 2 S (fun (r2 : Int32) (S2 : xSt) => (zb r2 ∧ K r2 S2))))) : M_Rd_opensOnce h d S K := by
  refine x_enter pn_X4 (Nat.le_of_ble_eq_true rfl) ?_
  show X (gC h) _ _ 0 [(0, .ref (x_ad (gC h) 18))] [] S _
  refine x_iconst (x_at tdX4_opensOnce 0 rfl) k_c_1 ?_
  refine x_aload_n (x_at tdX4_opensOnce 1 rfl) rfl rfl ?_
  refine gfC_18_0 (x_at tdX4_opensOnce 2 rfl) wf_X4_12 ?_
  refine gfC_19_5 (x_at tdX4_opensOnce 3 rfl) wf_X4_62 ?_
  refine x_ishl (x_at tdX4_opensOnce 4 rfl) ?_
  refine x_istore_n (x_at tdX4_opensOnce 5 rfl) rfl (by decide) ?_
  refine x_aload_n (x_at tdX4_opensOnce 6 rfl) rfl rfl ?_
  refine gfC_18_6 (x_at tdX4_opensOnce 7 rfl) wf_X4_51 ?_
  refine x_iload_n (x_at tdX4_opensOnce 8 rfl) rfl rfl ?_
  refine x_iand (x_at tdX4_opensOnce 9 rfl) ?_
  refine x_if_eq 28 (x_at tdX4_opensOnce 10 rfl) rfl (fun c => ?_) (fun c => ?_)
  · have H := H.1 c
    refine x_aload_n (x_at tdX4_opensOnce 16 rfl) rfl rfl ?_
    refine x_dup (x_at tdX4_opensOnce 17 rfl) rfl ?_
    refine gfC_18_6 (x_at tdX4_opensOnce 18 rfl) wf_X4_51 ?_
    refine x_iload_n (x_at tdX4_opensOnce 19 rfl) rfl rfl ?_
    refine x_ior (x_at tdX4_opensOnce 20 rfl) ?_
    refine pfC_18_6 (x_at tdX4_opensOnce 21 rfl) wf_X4_51 ?_
    refine x_aload_n (x_at tdX4_opensOnce 22 rfl) rfl rfl ?_
    refine gfC_18_0 (x_at tdX4_opensOnce 23 rfl) wf_X4_12 ?_
    refine x_cVv (as := []) (rest := []) mi_X7_advance vc_7 (lC_19 h) (x_at tdX4_opensOnce 24 rfl) wm_X4_101 rfl (Nat.le_of_ble_eq_true rfl) rfl H (fun S1 H => ?_)
    refine x_iconst (x_at tdX4_opensOnce 25 rfl) k_c_1 ?_
    exact x_ireturn (ty := .boolean) rfl zb1.1 (x_at tdX4_opensOnce 26 rfl) ⟨_, rfl, H⟩
  · have H := H.2 c
    refine x_aload_n (x_at tdX4_opensOnce 11 rfl) rfl rfl ?_
    refine gfC_18_0 (x_at tdX4_opensOnce 12 rfl) wf_X4_12 ?_
    refine x_iconst (x_at tdX4_opensOnce 13 rfl) k_c_2 ?_
    refine x_cVi (as := [.int 2]) (rest := []) mi_X7_refuse vc_7 (lC_19 h) (x_at tdX4_opensOnce 14 rfl) wm_X4_93 rfl (Nat.le_of_ble_eq_true rfl) rfl H (fun r2 S2 H => ?_)
    exact x_ireturn (ty := .boolean) rfl H.1.1 (x_at tdX4_opensOnce 15 rfl) ⟨_, rfl, H.2⟩
theorem e_Rd_find {h : xH} {d : Nat} {r1 : Nat} {x2 : Int32} {S : xSt} {K : Int32 → xSt → Prop} {nr1 : Nat} (hr1 : layC[r1]? = some (.inl (3, nr1))) (H : B_Rd_find_2 h d r1 x2 0 S K) : M_Rd_find h d r1 x2 S K := by
  refine x_enter pn_X4 (Nat.le_of_ble_eq_true rfl) ?_
  show X (gC h) _ _ 0 [(0, .ref (x_ad (gC h) 18)), (1, .ref (x_ad (gC h) r1)), (2, .int x2)] [] S _
  refine x_iconst (x_at tdX4_find 0 rfl) k_c_0 ?_
  refine x_istore_n (x_at tdX4_find 1 rfl) rfl (by decide) ?_
  refine x_weak (lv' := [(0, .ref (x_ad (gC h) 18)), (1, .ref (x_ad (gC h) r1)), (2, .int x2), (3, .int 0)]) ⟨rfl, rfl, rfl, rfl, trivial⟩ ?_
  exact H
theorem b_Rd_find_2 {h : xH} {d : Nat} {r1 : Nat} {x2 : Int32} {x3 : Int32} {S : xSt} {K : Int32 → xSt → Prop} {nr1 : Nat} (hr1 : layC[r1]? = some (.inl (3, nr1))) (H : ((x2 ≤ x3 → K (-1) S) ∧ (¬ x2 ≤ x3 → (((nI nr1) ≤ x3 → K (-1) S) ∧ (¬ (nI nr1) ≤ x3 → (vp_in x3 nr1 ∧ ((¬ (S.2.1 r1 (x3 : Int32).toNatClampNeg) = (S.2.1 19 6) → B_Rd_find_2 h d r1 x2 (x3 + 1) S K) ∧ ((S.2.1 r1 (x3 : Int32).toNatClampNeg) = (S.2.1 19 6) → K x3 S)))))))) : B_Rd_find_2 h d r1 x2 x3 S K := by
  unfold B_Rd_find_2
  refine x_iload_n (x_at tdX4_find 2 rfl) rfl rfl ?_
  refine x_iload_n (x_at tdX4_find 3 rfl) rfl rfl ?_
  refine x_ic_ge 35 (x_at tdX4_find 4 rfl) rfl (fun c => ?_) (fun c => ?_)
  · have H := H.1 c
    refine x_iconst (x_at tdX4_find 21 rfl) k_c_m1 ?_
    exact x_ireturn (ty := .int) rfl rfl (x_at tdX4_find 22 rfl) ⟨_, rfl, H⟩
  · have H := H.2 c
    refine x_iload_n (x_at tdX4_find 5 rfl) rfl rfl ?_
    refine x_aload_n (x_at tdX4_find 6 rfl) rfl rfl ?_
    refine x_alen (by decide) hr1 (x_at tdX4_find 7 rfl) ?_
    refine x_ic_ge 35 (x_at tdX4_find 8 rfl) rfl (fun c => ?_) (fun c => ?_)
    · have H := H.1 c
      refine x_iconst (x_at tdX4_find 21 rfl) k_c_m1 ?_
      exact x_ireturn (ty := .int) rfl rfl (x_at tdX4_find 22 rfl) ⟨_, rfl, H⟩
    · have H := H.2 c
      refine x_aload_n (x_at tdX4_find 9 rfl) rfl rfl ?_
      refine x_iload_n (x_at tdX4_find 10 rfl) rfl rfl ?_
      refine x_lald hr1 (x_at tdX4_find 11 rfl) H.1 ?_
      have H := H.2
      refine x_aload_n (x_at tdX4_find 12 rfl) rfl rfl ?_
      refine gfC_18_0 (x_at tdX4_find 13 rfl) wf_X4_12 ?_
      refine gfC_19_6 (x_at tdX4_find 14 rfl) wf_X4_115 ?_
      refine x_lc_ne 29 (x_at tdX4_find 15 rfl) (x_at tdX4_find 16 rfl) rfl (fun c => ?_) (fun c => ?_)
      · have H := H.1 c
        refine x_iinc (x_at tdX4_find 19 rfl) rfl (k_inc_1 _) (by decide) ?_
        refine x_goto 2 (x_at tdX4_find 20 rfl) rfl ?_
        refine x_weak (lv' := [(0, .ref (x_ad (gC h) 18)), (1, .ref (x_ad (gC h) r1)), (2, .int x2), (3, .int (x3 + 1))]) ⟨rfl, rfl, rfl, rfl, trivial⟩ ?_
        exact H
      · have H := H.2 c
        refine x_iload_n (x_at tdX4_find 17 rfl) rfl rfl ?_
        exact x_ireturn (ty := .int) rfl rfl (x_at tdX4_find 18 rfl) ⟨_, rfl, H⟩
theorem e_Rd_isNewName {h : xH} {d : Nat} {r1 : Nat} {x2 : Int32} {S : xSt} {K : Int32 → xSt → Prop} {nr1 : Nat} (hr1 : layC[r1]? = some (.inl (3, nr1))) (H : (((S.1 19 4) = 2 → M_Rd_find h (d + 1) r1 x2 S (fun (r1 : Int32) (S1 : xSt) => ((r1 = (-1) → K 1 S1) ∧ (¬ r1 = (-1) → M_Tk_refuse h d 3 S1 (fun (r2 : Int32) (S2 : xSt) => (zb r2 ∧ K r2 S2)))))) ∧ (¬ (S.1 19 4) = 2 → M_Tk_refuse h d 2 S (fun (r3 : Int32) (S3 : xSt) => (zb r3 ∧ K r3 S3))))) : M_Rd_isNewName h d r1 x2 S K := by
  refine x_enter pn_X4 (Nat.le_of_ble_eq_true rfl) ?_
  show X (gC h) _ _ 0 [(0, .ref (x_ad (gC h) 18)), (1, .ref (x_ad (gC h) r1)), (2, .int x2)] [] S _
  refine x_aload_n (x_at tdX4_isNewName 0 rfl) rfl rfl ?_
  refine gfC_18_0 (x_at tdX4_isNewName 1 rfl) wf_X4_12 ?_
  refine gfC_19_4 (x_at tdX4_isNewName 2 rfl) wf_X4_59 ?_
  refine x_iconst (x_at tdX4_isNewName 3 rfl) k_c_2 ?_
  refine x_ic_eq 20 (x_at tdX4_isNewName 4 rfl) rfl (fun c => ?_) (fun c => ?_)
  · have H := H.1 c
    refine x_aload_n (x_at tdX4_isNewName 10 rfl) rfl rfl ?_
    refine x_aload_n (x_at tdX4_isNewName 11 rfl) rfl rfl ?_
    refine x_iload_n (x_at tdX4_isNewName 12 rfl) rfl rfl ?_
    refine x_cVi (as := [.ref (x_ad (gC h) r1), .int x2]) (rest := []) mi_X4_find vc_4 (lC_18 h) (x_at tdX4_isNewName 13 rfl) wm_X4_217 rfl (Nat.le_of_ble_eq_true rfl) rfl H (fun r1 S1 H => ?_)
    refine x_iconst (x_at tdX4_isNewName 14 rfl) k_c_m1 ?_
    refine x_ic_eq 39 (x_at tdX4_isNewName 15 rfl) rfl (fun c => ?_) (fun c => ?_)
    · have H := H.1 c
      refine x_iconst (x_at tdX4_isNewName 21 rfl) k_c_1 ?_
      exact x_ireturn (ty := .boolean) rfl zb1.1 (x_at tdX4_isNewName 22 rfl) ⟨_, rfl, H⟩
    · have H := H.2 c
      refine x_aload_n (x_at tdX4_isNewName 16 rfl) rfl rfl ?_
      refine gfC_18_0 (x_at tdX4_isNewName 17 rfl) wf_X4_12 ?_
      refine x_iconst (x_at tdX4_isNewName 18 rfl) k_c_3 ?_
      refine x_cVi (as := [.int 3]) (rest := []) mi_X7_refuse vc_7 (lC_19 h) (x_at tdX4_isNewName 19 rfl) wm_X4_93 rfl (Nat.le_of_ble_eq_true rfl) rfl H (fun r2 S2 H => ?_)
      exact x_ireturn (ty := .boolean) rfl H.1.1 (x_at tdX4_isNewName 20 rfl) ⟨_, rfl, H.2⟩
  · have H := H.2 c
    refine x_aload_n (x_at tdX4_isNewName 5 rfl) rfl rfl ?_
    refine gfC_18_0 (x_at tdX4_isNewName 6 rfl) wf_X4_12 ?_
    refine x_iconst (x_at tdX4_isNewName 7 rfl) k_c_2 ?_
    refine x_cVi (as := [.int 2]) (rest := []) mi_X7_refuse vc_7 (lC_19 h) (x_at tdX4_isNewName 8 rfl) wm_X4_93 rfl (Nat.le_of_ble_eq_true rfl) rfl H (fun r3 S3 H => ?_)
    exact x_ireturn (ty := .boolean) rfl H.1.1 (x_at tdX4_isNewName 9 rfl) ⟨_, rfl, H.2⟩
theorem e_Rd_opens {h : xH} {d : Nat} {x1 : Int32} {x2 : Int32} {S : xSt} {K : Int32 → xSt → Prop}  (H : ((x1 < x2 → M_Tk_advance h d S (fun (S1 : xSt) => K 1 S1)) ∧ (¬ x1 < x2 → M_Tk_refuse h (d + 8) 2 S (fun (r2 : Int32) (S2 : xSt) => (zb r2 ∧ K r2 S2))))) : M_Rd_opens h d x1 x2 S K := by
  refine x_enter pn_X4 (Nat.le_of_ble_eq_true rfl) ?_
  show X (gC h) _ _ 0 [(0, .ref (x_ad (gC h) 18)), (1, .int x1), (2, .int x2)] [] S _
  refine x_iload_n (x_at tdX4_opens 0 rfl) rfl rfl ?_
  refine x_iload_n (x_at tdX4_opens 1 rfl) rfl rfl ?_
  refine x_ic_lt 14 (x_at tdX4_opens 2 rfl) rfl (fun c => ?_) (fun c => ?_)
  · have H := H.1 c
    refine x_aload_n (x_at tdX4_opens 8 rfl) rfl rfl ?_
    refine gfC_18_0 (x_at tdX4_opens 9 rfl) wf_X4_12 ?_
    refine x_cVv (as := []) (rest := []) mi_X7_advance vc_7 (lC_19 h) (x_at tdX4_opens 10 rfl) wm_X4_101 rfl (Nat.le_of_ble_eq_true rfl) rfl H (fun S1 H => ?_)
    refine x_iconst (x_at tdX4_opens 11 rfl) k_c_1 ?_
    exact x_ireturn (ty := .boolean) rfl zb1.1 (x_at tdX4_opens 12 rfl) ⟨_, rfl, H⟩
  · have H := H.2 c
    refine x_aload_n (x_at tdX4_opens 3 rfl) rfl rfl ?_
    refine gfC_18_0 (x_at tdX4_opens 4 rfl) wf_X4_12 ?_
    refine x_iconst (x_at tdX4_opens 5 rfl) k_c_2 ?_
    refine x_cVi (as := [.int 2]) (rest := []) mi_X7_refuse vc_7 (lC_19 h) (x_at tdX4_opens 6 rfl) wm_X4_93 rfl (Nat.le_of_ble_eq_true rfl) rfl H (fun r2 S2 H => ?_)
    exact x_ireturn (ty := .boolean) rfl H.1.1 (x_at tdX4_opens 7 rfl) ⟨_, rfl, H.2⟩
theorem e_Rd_number {h : xH} {d : Nat} {x1 : Int32} {x2 : Int32} {S : xSt} {K : Int32 → xSt → Prop}  (H : (((S.1 19 4) = 4 → (((S.1 19 5) < x1 → B_Rd_number_40 h d S K) ∧ (¬ (S.1 19 5) < x1 → (((S.1 19 5) ≤ x2 → M_Tk_advance h d S (fun (S1 : xSt) => K (S.1 19 5) S1)) ∧ (¬ (S.1 19 5) ≤ x2 → B_Rd_number_40 h d S K))))) ∧ (¬ (S.1 19 4) = 4 → M_Tk_refuse h (d + 8) 2 S (fun (r2 : Int32) (S2 : xSt) => K (-1) S2)))) : M_Rd_number h d x1 x2 S K := by
  refine x_enter pn_X4 (Nat.le_of_ble_eq_true rfl) ?_
  show X (gC h) _ _ 0 [(0, .ref (x_ad (gC h) 18)), (1, .int x1), (2, .int x2)] [] S _
  refine x_aload_n (x_at tdX4_number 0 rfl) rfl rfl ?_
  refine gfC_18_0 (x_at tdX4_number 1 rfl) wf_X4_12 ?_
  refine gfC_19_4 (x_at tdX4_number 2 rfl) wf_X4_59 ?_
  refine x_iconst (x_at tdX4_number 3 rfl) k_c_4 ?_
  refine x_ic_eq 22 (x_at tdX4_number 4 rfl) rfl (fun c => ?_) (fun c => ?_)
  · have H := H.1 c
    refine x_aload_n (x_at tdX4_number 12 rfl) rfl rfl ?_
    refine gfC_18_0 (x_at tdX4_number 13 rfl) wf_X4_12 ?_
    refine gfC_19_5 (x_at tdX4_number 14 rfl) wf_X4_62 ?_
    refine x_istore_n (x_at tdX4_number 15 rfl) rfl (by decide) ?_
    refine x_iload_n (x_at tdX4_number 16 rfl) rfl rfl ?_
    refine x_iload_n (x_at tdX4_number 17 rfl) rfl rfl ?_
    refine x_ic_lt 40 (x_at tdX4_number 18 rfl) rfl (fun c => ?_) (fun c => ?_)
    · have H := H.1 c
      refine x_weak (lv' := [(0, .ref (x_ad (gC h) 18))]) ⟨rfl, trivial⟩ ?_
      exact H
    · have H := H.2 c
      refine x_iload_n (x_at tdX4_number 19 rfl) rfl rfl ?_
      refine x_iload_n (x_at tdX4_number 20 rfl) rfl rfl ?_
      refine x_ic_le 51 (x_at tdX4_number 21 rfl) rfl (fun c => ?_) (fun c => ?_)
      · have H := H.1 c
        refine x_aload_n (x_at tdX4_number 29 rfl) rfl rfl ?_
        refine gfC_18_0 (x_at tdX4_number 30 rfl) wf_X4_12 ?_
        refine x_cVv (as := []) (rest := []) mi_X7_advance vc_7 (lC_19 h) (x_at tdX4_number 31 rfl) wm_X4_101 rfl (Nat.le_of_ble_eq_true rfl) rfl H (fun S1 H => ?_)
        refine x_iload_n (x_at tdX4_number 32 rfl) rfl rfl ?_
        exact x_ireturn (ty := .int) rfl rfl (x_at tdX4_number 33 rfl) ⟨_, rfl, H⟩
      · have H := H.2 c
        refine x_weak (lv' := [(0, .ref (x_ad (gC h) 18))]) ⟨rfl, trivial⟩ ?_
        exact H
  · have H := H.2 c
    refine x_aload_n (x_at tdX4_number 5 rfl) rfl rfl ?_
    refine gfC_18_0 (x_at tdX4_number 6 rfl) wf_X4_12 ?_
    refine x_iconst (x_at tdX4_number 7 rfl) k_c_2 ?_
    refine x_cVi (as := [.int 2]) (rest := []) mi_X7_refuse vc_7 (lC_19 h) (x_at tdX4_number 8 rfl) wm_X4_93 rfl (Nat.le_of_ble_eq_true rfl) rfl H (fun r2 S2 H => ?_)
    refine x_pop (x_at tdX4_number 9 rfl) rfl ?_
    refine x_iconst (x_at tdX4_number 10 rfl) k_c_m1 ?_
    exact x_ireturn (ty := .int) rfl rfl (x_at tdX4_number 11 rfl) ⟨_, rfl, H⟩
theorem b_Rd_number_40 {h : xH} {d : Nat}   {S : xSt} {K : Int32 → xSt → Prop}  (H : M_Tk_refuse h (d + 8) 4 S (fun (r1 : Int32) (S1 : xSt) => K (-1) S1)) : B_Rd_number_40 h d S K := by
  unfold B_Rd_number_40
  refine x_aload_n (x_at tdX4_number 22 rfl) rfl rfl ?_
  refine gfC_18_0 (x_at tdX4_number 23 rfl) wf_X4_12 ?_
  refine x_iconst (x_at tdX4_number 24 rfl) k_c_4 ?_
  refine x_cVi (as := [.int 4]) (rest := []) mi_X7_refuse vc_7 (lC_19 h) (x_at tdX4_number 25 rfl) wm_X4_93 rfl (Nat.le_of_ble_eq_true rfl) rfl H (fun r1 S1 H => ?_)
  refine x_pop (x_at tdX4_number 26 rfl) rfl ?_
  refine x_iconst (x_at tdX4_number 27 rfl) k_c_m1 ?_
  exact x_ireturn (ty := .int) rfl rfl (x_at tdX4_number 28 rfl) ⟨_, rfl, H⟩
theorem e_Rd_optional {h : xH} {d : Nat} {x1 : Int32} {x2 : Int32} {x3 : Int32} {x4 : Int32} {S : xSt} {K : Int32 → xSt → Prop}  (H : M_Tk_isWord h (d + 10) x1 S (fun (r1 : Int32) (S1 : xSt) => ((¬ r1 = 0 → M_Tk_advance h (d + 1) S1 (fun (S2 : xSt) => M_Rd_number h d x2 x3 S2 (fun (r3 : Int32) (S3 : xSt) => K r3 S3))) ∧ (r1 = 0 → K x4 S1)))) : M_Rd_optional h d x1 x2 x3 x4 S K := by
  refine x_enter pn_X4 (Nat.le_of_ble_eq_true rfl) ?_
  show X (gC h) _ _ 0 [(0, .ref (x_ad (gC h) 18)), (1, .int x1), (2, .int x2), (3, .int x3), (4, .int x4)] [] S _
  refine x_aload_n (x_at tdX4_optional 0 rfl) rfl rfl ?_
  refine gfC_18_0 (x_at tdX4_optional 1 rfl) wf_X4_12 ?_
  refine x_iload_n (x_at tdX4_optional 2 rfl) rfl rfl ?_
  refine x_cVi (as := [.int x1]) (rest := []) mi_X7_isWord vc_7 (lC_19 h) (x_at tdX4_optional 3 rfl) wm_X4_133 rfl (Nat.le_of_ble_eq_true rfl) rfl H (fun r1 S1 H => ?_)
  refine x_if_ne 14 (x_at tdX4_optional 4 rfl) rfl (fun c => ?_) (fun c => ?_)
  · have H := H.1 c
    refine x_aload_n (x_at tdX4_optional 7 rfl) rfl rfl ?_
    refine gfC_18_0 (x_at tdX4_optional 8 rfl) wf_X4_12 ?_
    refine x_cVv (as := []) (rest := []) mi_X7_advance vc_7 (lC_19 h) (x_at tdX4_optional 9 rfl) wm_X4_101 rfl (Nat.le_of_ble_eq_true rfl) rfl H (fun S2 H => ?_)
    refine x_aload_n (x_at tdX4_optional 10 rfl) rfl rfl ?_
    refine x_iload_n (x_at tdX4_optional 11 rfl) rfl rfl ?_
    refine x_iload_n (x_at tdX4_optional 12 rfl) rfl rfl ?_
    refine x_cVi (as := [.int x2, .int x3]) (rest := []) mi_X4_number vc_4 (lC_18 h) (x_at tdX4_optional 13 rfl) wm_X4_145 rfl (Nat.le_of_ble_eq_true rfl) rfl H (fun r3 S3 H => ?_)
    exact x_ireturn (ty := .int) rfl rfl (x_at tdX4_optional 14 rfl) ⟨_, rfl, H⟩
  · have H := H.2 c
    refine x_iload (x_at tdX4_optional 5 rfl) rfl ?_
    exact x_ireturn (ty := .int) rfl rfl (x_at tdX4_optional 6 rfl) ⟨_, rfl, H⟩
theorem e_Rd_oldName {h : xH} {d : Nat} {r1 : Nat} {x2 : Int32} {S : xSt} {K : Int32 → xSt → Prop} {nr1 : Nat} (hr1 : layC[r1]? = some (.inl (3, nr1))) (H : (((S.1 19 4) = 2 → M_Rd_find h (d + 1) r1 x2 S (fun (r1 : Int32) (S1 : xSt) => ((¬ r1 = (-1) → K r1 S1) ∧ (r1 = (-1) → M_Tk_refuse h d 5 S1 (fun (r2 : Int32) (S2 : xSt) => K r1 S2))))) ∧ (¬ (S.1 19 4) = 2 → M_Tk_refuse h d 2 S (fun (r3 : Int32) (S3 : xSt) => K (-1) S3)))) : M_Rd_oldName h d r1 x2 S K := by
  refine x_enter pn_X4 (Nat.le_of_ble_eq_true rfl) ?_
  show X (gC h) _ _ 0 [(0, .ref (x_ad (gC h) 18)), (1, .ref (x_ad (gC h) r1)), (2, .int x2)] [] S _
  refine x_aload_n (x_at tdX4_oldName 0 rfl) rfl rfl ?_
  refine gfC_18_0 (x_at tdX4_oldName 1 rfl) wf_X4_12 ?_
  refine gfC_19_4 (x_at tdX4_oldName 2 rfl) wf_X4_59 ?_
  refine x_iconst (x_at tdX4_oldName 3 rfl) k_c_2 ?_
  refine x_ic_eq 22 (x_at tdX4_oldName 4 rfl) rfl (fun c => ?_) (fun c => ?_)
  · have H := H.1 c
    refine x_aload_n (x_at tdX4_oldName 12 rfl) rfl rfl ?_
    refine x_aload_n (x_at tdX4_oldName 13 rfl) rfl rfl ?_
    refine x_iload_n (x_at tdX4_oldName 14 rfl) rfl rfl ?_
    refine x_cVi (as := [.ref (x_ad (gC h) r1), .int x2]) (rest := []) mi_X4_find vc_4 (lC_18 h) (x_at tdX4_oldName 15 rfl) wm_X4_217 rfl (Nat.le_of_ble_eq_true rfl) rfl H (fun r1 S1 H => ?_)
    refine x_istore_n (x_at tdX4_oldName 16 rfl) rfl (by decide) ?_
    refine x_iload_n (x_at tdX4_oldName 17 rfl) rfl rfl ?_
    refine x_iconst (x_at tdX4_oldName 18 rfl) k_c_m1 ?_
    refine x_ic_ne 43 (x_at tdX4_oldName 19 rfl) rfl (fun c => ?_) (fun c => ?_)
    · have H := H.1 c
      refine x_iload_n (x_at tdX4_oldName 25 rfl) rfl rfl ?_
      exact x_ireturn (ty := .int) rfl rfl (x_at tdX4_oldName 26 rfl) ⟨_, rfl, H⟩
    · have H := H.2 c
      refine x_aload_n (x_at tdX4_oldName 20 rfl) rfl rfl ?_
      refine gfC_18_0 (x_at tdX4_oldName 21 rfl) wf_X4_12 ?_
      refine x_iconst (x_at tdX4_oldName 22 rfl) k_c_5 ?_
      refine x_cVi (as := [.int 5]) (rest := []) mi_X7_refuse vc_7 (lC_19 h) (x_at tdX4_oldName 23 rfl) wm_X4_93 rfl (Nat.le_of_ble_eq_true rfl) rfl H (fun r2 S2 H => ?_)
      refine x_pop (x_at tdX4_oldName 24 rfl) rfl ?_
      refine x_iload_n (x_at tdX4_oldName 25 rfl) rfl rfl ?_
      exact x_ireturn (ty := .int) rfl rfl (x_at tdX4_oldName 26 rfl) ⟨_, rfl, H⟩
  · have H := H.2 c
    refine x_aload_n (x_at tdX4_oldName 5 rfl) rfl rfl ?_
    refine gfC_18_0 (x_at tdX4_oldName 6 rfl) wf_X4_12 ?_
    refine x_iconst (x_at tdX4_oldName 7 rfl) k_c_2 ?_
    refine x_cVi (as := [.int 2]) (rest := []) mi_X7_refuse vc_7 (lC_19 h) (x_at tdX4_oldName 8 rfl) wm_X4_93 rfl (Nat.le_of_ble_eq_true rfl) rfl H (fun r3 S3 H => ?_)
    refine x_pop (x_at tdX4_oldName 9 rfl) rfl ?_
    refine x_iconst (x_at tdX4_oldName 10 rfl) k_c_m1 ?_
    exact x_ireturn (ty := .int) rfl rfl (x_at tdX4_oldName 11 rfl) ⟨_, rfl, H⟩
theorem e_Rd_readAfter {h : xH} {d : Nat} {x1 : Int32} {S : xSt} {K : Int32 → xSt → Prop}  (H : (vp_in x1 10 ∧ M_Tk_isWord h (d + 9) 13 (x_putI S 32 (x1 : Int32).toNatClampNeg (-1)) (fun (r1 : Int32) (S1 : xSt) => ((¬ r1 = 0 → M_Tk_advance h d S1 (fun (S2 : xSt) => M_Rd_oldName h (d + 7) 40 (S2.1 21 6) S2 (fun (r3 : Int32) (S3 : xSt) => (vp_in x1 10 ∧ (vp_in x1 10 ∧ ((¬ r3 = (-1) → M_Tk_advance h d (x_putI S3 32 (x1 : Int32).toNatClampNeg r3) (fun (S4 : xSt) => K 1 S4)) ∧ (r3 = (-1) → K 0 (x_putI S3 32 (x1 : Int32).toNatClampNeg r3)))))))) ∧ (r1 = 0 → K 1 S1))))) : M_Rd_readAfter h d x1 S K := by
  refine x_enter pn_X4 (Nat.le_of_ble_eq_true rfl) ?_
  show X (gC h) _ _ 0 [(0, .ref (x_ad (gC h) 18)), (1, .int x1)] [] S _
  refine x_aload_n (x_at tdX4_readAfter 0 rfl) rfl rfl ?_
  refine gfC_18_1 (x_at tdX4_readAfter 1 rfl) wf_X4_21 ?_
  refine gfC_21_13 (x_at tdX4_readAfter 2 rfl) wf_X4_183 ?_
  refine x_iload_n (x_at tdX4_readAfter 3 rfl) rfl rfl ?_
  refine x_iconst (x_at tdX4_readAfter 4 rfl) k_c_m1 ?_
  refine x_iast (lC_32 h) (x_at tdX4_readAfter 5 rfl) H.1 ?_
  have H := H.2
  refine x_aload_n (x_at tdX4_readAfter 6 rfl) rfl rfl ?_
  refine gfC_18_0 (x_at tdX4_readAfter 7 rfl) wf_X4_12 ?_
  refine x_bipush (x_at tdX4_readAfter 8 rfl) k_b_13 ?_
  refine x_cVi (as := [.int 13]) (rest := []) mi_X7_isWord vc_7 (lC_19 h) (x_at tdX4_readAfter 9 rfl) wm_X4_133 rfl (Nat.le_of_ble_eq_true rfl) rfl H (fun r1 S1 H => ?_)
  refine x_if_ne 24 (x_at tdX4_readAfter 10 rfl) rfl (fun c => ?_) (fun c => ?_)
  · have H := H.1 c
    refine x_aload_n (x_at tdX4_readAfter 13 rfl) rfl rfl ?_
    refine gfC_18_0 (x_at tdX4_readAfter 14 rfl) wf_X4_12 ?_
    refine x_cVv (as := []) (rest := []) mi_X7_advance vc_7 (lC_19 h) (x_at tdX4_readAfter 15 rfl) wm_X4_101 rfl (Nat.le_of_ble_eq_true rfl) rfl H (fun S2 H => ?_)
    refine x_aload_n (x_at tdX4_readAfter 16 rfl) rfl rfl ?_
    refine gfC_18_1 (x_at tdX4_readAfter 17 rfl) wf_X4_21 ?_
    refine gfC_21_13 (x_at tdX4_readAfter 18 rfl) wf_X4_183 ?_
    refine x_iload_n (x_at tdX4_readAfter 19 rfl) rfl rfl ?_
    refine x_aload_n (x_at tdX4_readAfter 20 rfl) rfl rfl ?_
    refine x_aload_n (x_at tdX4_readAfter 21 rfl) rfl rfl ?_
    refine gfC_18_5 (x_at tdX4_readAfter 22 rfl) wf_X4_45 ?_
    refine x_aload_n (x_at tdX4_readAfter 23 rfl) rfl rfl ?_
    refine gfC_18_1 (x_at tdX4_readAfter 24 rfl) wf_X4_21 ?_
    refine gfC_21_6 (x_at tdX4_readAfter 25 rfl) wf_X4_149 ?_
    refine x_cVi (as := [.ref (x_ad (gC h) 40), .int (S2.1 21 6)]) (rest := [.int x1, .ref (x_ad (gC h) 32)]) mi_X4_oldName vc_4 (lC_18 h) (x_at tdX4_readAfter 26 rfl) wm_X4_167 rfl (Nat.le_of_ble_eq_true rfl) rfl H (fun r3 S3 H => ?_)
    refine x_iast (lC_32 h) (x_at tdX4_readAfter 27 rfl) H.1 ?_
    have H := H.2
    refine x_aload_n (x_at tdX4_readAfter 28 rfl) rfl rfl ?_
    refine gfC_18_1 (x_at tdX4_readAfter 29 rfl) wf_X4_21 ?_
    refine gfC_21_13 (x_at tdX4_readAfter 30 rfl) wf_X4_183 ?_
    refine x_iload_n (x_at tdX4_readAfter 31 rfl) rfl rfl ?_
    refine x_iald (lC_32 h) (x_at tdX4_readAfter 32 rfl) H.1 ?_
    have H := H.2
    refine x_top (v := r3) (by simp [x_putI, upd]) ?_
    refine x_iconst (x_at tdX4_readAfter 33 rfl) k_c_m1 ?_
    refine x_ic_ne 70 (x_at tdX4_readAfter 34 rfl) rfl (fun c => ?_) (fun c => ?_)
    · have H := H.1 c
      refine x_aload_n (x_at tdX4_readAfter 37 rfl) rfl rfl ?_
      refine gfC_18_0 (x_at tdX4_readAfter 38 rfl) wf_X4_12 ?_
      refine x_cVv (as := []) (rest := []) mi_X7_advance vc_7 (lC_19 h) (x_at tdX4_readAfter 39 rfl) wm_X4_101 rfl (Nat.le_of_ble_eq_true rfl) rfl H (fun S4 H => ?_)
      refine x_iconst (x_at tdX4_readAfter 40 rfl) k_c_1 ?_
      exact x_ireturn (ty := .boolean) rfl zb1.1 (x_at tdX4_readAfter 41 rfl) ⟨_, rfl, H⟩
    · have H := H.2 c
      refine x_iconst (x_at tdX4_readAfter 35 rfl) k_c_0 ?_
      exact x_ireturn (ty := .boolean) rfl zb0.1 (x_at tdX4_readAfter 36 rfl) ⟨_, rfl, H⟩
  · have H := H.2 c
    refine x_iconst (x_at tdX4_readAfter 11 rfl) k_c_1 ?_
    exact x_ireturn (ty := .boolean) rfl zb1.1 (x_at tdX4_readAfter 12 rfl) ⟨_, rfl, H⟩
theorem e_Rd_readPromise {h : xH} {d : Nat} {x1 : Int32} {S : xSt} {K : Int32 → xSt → Prop}  (H : M_Tk_isWord h (d + 9) 9 S (fun (r1 : Int32) (S1 : xSt) => ((¬ r1 = 0 → B_Rd_readPromise_33 h d x1 S1 K) ∧ (r1 = 0 → M_Tk_isWord h (d + 9) 10 S1 (fun (r2 : Int32) (S2 : xSt) => ((¬ r2 = 0 → B_Rd_readPromise_33 h d x1 S2 K) ∧ (r2 = 0 → M_Tk_refuse h (d + 8) 2 S2 (fun (r3 : Int32) (S3 : xSt) => (zb r3 ∧ K r3 S3))))))))) : M_Rd_readPromise h d x1 S K := by
  refine x_enter pn_X4 (Nat.le_of_ble_eq_true rfl) ?_
  show X (gC h) _ _ 0 [(0, .ref (x_ad (gC h) 18)), (1, .int x1)] [] S _
  refine x_aload_n (x_at tdX4_readPromise 0 rfl) rfl rfl ?_
  refine gfC_18_0 (x_at tdX4_readPromise 1 rfl) wf_X4_12 ?_
  refine x_bipush (x_at tdX4_readPromise 2 rfl) k_b_9 ?_
  refine x_cVi (as := [.int 9]) (rest := []) mi_X7_isWord vc_7 (lC_19 h) (x_at tdX4_readPromise 3 rfl) wm_X4_133 rfl (Nat.le_of_ble_eq_true rfl) rfl H (fun r1 S1 H => ?_)
  refine x_if_ne 33 (x_at tdX4_readPromise 4 rfl) rfl (fun c => ?_) (fun c => ?_)
  · have H := H.1 c
    refine x_weak (lv' := [(0, .ref (x_ad (gC h) 18)), (1, .int x1)]) ⟨rfl, rfl, trivial⟩ ?_
    exact H
  · have H := H.2 c
    refine x_aload_n (x_at tdX4_readPromise 5 rfl) rfl rfl ?_
    refine gfC_18_0 (x_at tdX4_readPromise 6 rfl) wf_X4_12 ?_
    refine x_bipush (x_at tdX4_readPromise 7 rfl) k_b_10 ?_
    refine x_cVi (as := [.int 10]) (rest := []) mi_X7_isWord vc_7 (lC_19 h) (x_at tdX4_readPromise 8 rfl) wm_X4_133 rfl (Nat.le_of_ble_eq_true rfl) rfl H (fun r2 S2 H => ?_)
    refine x_if_ne 33 (x_at tdX4_readPromise 9 rfl) rfl (fun c => ?_) (fun c => ?_)
    · have H := H.1 c
      refine x_weak (lv' := [(0, .ref (x_ad (gC h) 18)), (1, .int x1)]) ⟨rfl, rfl, trivial⟩ ?_
      exact H
    · have H := H.2 c
      refine x_aload_n (x_at tdX4_readPromise 10 rfl) rfl rfl ?_
      refine gfC_18_0 (x_at tdX4_readPromise 11 rfl) wf_X4_12 ?_
      refine x_iconst (x_at tdX4_readPromise 12 rfl) k_c_2 ?_
      refine x_cVi (as := [.int 2]) (rest := []) mi_X7_refuse vc_7 (lC_19 h) (x_at tdX4_readPromise 13 rfl) wm_X4_93 rfl (Nat.le_of_ble_eq_true rfl) rfl H (fun r3 S3 H => ?_)
      exact x_ireturn (ty := .boolean) rfl H.1.1 (x_at tdX4_readPromise 14 rfl) ⟨_, rfl, H.2⟩
theorem b_Rd_readPromise_33 {h : xH} {d : Nat}  {x1 : Int32} {S : xSt} {K : Int32 → xSt → Prop}  (H : M_Tk_isWord h (d + 9) 9 S (fun (r1 : Int32) (S1 : xSt) => ((r1 = 0 → B_Rd_readPromise_58 h d x1 0 x1 S1 K) ∧ (¬ r1 = 0 → B_Rd_readPromise_58 h d x1 1 x1 S1 K)))) : B_Rd_readPromise_33 h d x1 S K := by
  unfold B_Rd_readPromise_33
  refine x_aload_n (x_at tdX4_readPromise 15 rfl) rfl rfl ?_
  refine gfC_18_1 (x_at tdX4_readPromise 16 rfl) wf_X4_21 ?_
  refine gfC_21_10 (x_at tdX4_readPromise 17 rfl) wf_X4_177 ?_
  refine x_iload_n (x_at tdX4_readPromise 18 rfl) rfl rfl ?_
  refine x_aload_n (x_at tdX4_readPromise 19 rfl) rfl rfl ?_
  refine gfC_18_0 (x_at tdX4_readPromise 20 rfl) wf_X4_12 ?_
  refine x_bipush (x_at tdX4_readPromise 21 rfl) k_b_9 ?_
  refine x_cVi (as := [.int 9]) (rest := [.int x1, .ref (x_ad (gC h) 29)]) mi_X7_isWord vc_7 (lC_19 h) (x_at tdX4_readPromise 22 rfl) wm_X4_133 rfl (Nat.le_of_ble_eq_true rfl) rfl H (fun r1 S1 H => ?_)
  refine x_if_eq 57 (x_at tdX4_readPromise 23 rfl) rfl (fun c => ?_) (fun c => ?_)
  · have H := H.1 c
    refine x_iconst (x_at tdX4_readPromise 26 rfl) k_c_0 ?_
    refine x_weak (lv' := [(0, .ref (x_ad (gC h) 18)), (1, .int x1)]) ⟨rfl, rfl, trivial⟩ ?_
    exact H
  · have H := H.2 c
    refine x_iconst (x_at tdX4_readPromise 24 rfl) k_c_1 ?_
    refine x_goto 58 (x_at tdX4_readPromise 25 rfl) rfl ?_
    refine x_weak (lv' := [(0, .ref (x_ad (gC h) 18)), (1, .int x1)]) ⟨rfl, rfl, trivial⟩ ?_
    exact H
theorem b_Rd_readPromise_58 {h : xH} {d : Nat}  {x1 : Int32} {s0 : Int32} {s1 : Int32} {S : xSt} {K : Int32 → xSt → Prop}  (H : (vp_in s1 10 ∧ M_Tk_advance h d (x_putI S 29 (s1 : Int32).toNatClampNeg s0) (fun (S1 : xSt) => M_Rd_oldName h (d + 7) 39 (S1.1 21 4) S1 (fun (r2 : Int32) (S2 : xSt) => ((¬ r2 = (-1) → M_Tk_advance h d S2 (fun (S3 : xSt) => (vp_in x1 10 ∧ K 1 (x_putI S3 28 (x1 : Int32).toNatClampNeg r2)))) ∧ (r2 = (-1) → K 0 S2)))))) : B_Rd_readPromise_58 h d x1 s0 s1 S K := by
  unfold B_Rd_readPromise_58
  refine x_iast (lC_29 h) (x_at tdX4_readPromise 27 rfl) H.1 ?_
  have H := H.2
  refine x_aload_n (x_at tdX4_readPromise 28 rfl) rfl rfl ?_
  refine gfC_18_0 (x_at tdX4_readPromise 29 rfl) wf_X4_12 ?_
  refine x_cVv (as := []) (rest := []) mi_X7_advance vc_7 (lC_19 h) (x_at tdX4_readPromise 30 rfl) wm_X4_101 rfl (Nat.le_of_ble_eq_true rfl) rfl H (fun S1 H => ?_)
  refine x_aload_n (x_at tdX4_readPromise 31 rfl) rfl rfl ?_
  refine x_aload_n (x_at tdX4_readPromise 32 rfl) rfl rfl ?_
  refine gfC_18_4 (x_at tdX4_readPromise 33 rfl) wf_X4_42 ?_
  refine x_aload_n (x_at tdX4_readPromise 34 rfl) rfl rfl ?_
  refine gfC_18_1 (x_at tdX4_readPromise 35 rfl) wf_X4_21 ?_
  refine gfC_21_4 (x_at tdX4_readPromise 36 rfl) wf_X4_136 ?_
  refine x_cVi (as := [.ref (x_ad (gC h) 39), .int (S1.1 21 4)]) (rest := []) mi_X4_oldName vc_4 (lC_18 h) (x_at tdX4_readPromise 37 rfl) wm_X4_167 rfl (Nat.le_of_ble_eq_true rfl) rfl H (fun r2 S2 H => ?_)
  refine x_istore_n (x_at tdX4_readPromise 38 rfl) rfl (by decide) ?_
  refine x_iload_n (x_at tdX4_readPromise 39 rfl) rfl rfl ?_
  refine x_iconst (x_at tdX4_readPromise 40 rfl) k_c_m1 ?_
  refine x_ic_ne 89 (x_at tdX4_readPromise 41 rfl) rfl (fun c => ?_) (fun c => ?_)
  · have H := H.1 c
    refine x_aload_n (x_at tdX4_readPromise 44 rfl) rfl rfl ?_
    refine gfC_18_0 (x_at tdX4_readPromise 45 rfl) wf_X4_12 ?_
    refine x_cVv (as := []) (rest := []) mi_X7_advance vc_7 (lC_19 h) (x_at tdX4_readPromise 46 rfl) wm_X4_101 rfl (Nat.le_of_ble_eq_true rfl) rfl H (fun S3 H => ?_)
    refine x_aload_n (x_at tdX4_readPromise 47 rfl) rfl rfl ?_
    refine gfC_18_1 (x_at tdX4_readPromise 48 rfl) wf_X4_21 ?_
    refine gfC_21_9 (x_at tdX4_readPromise 49 rfl) wf_X4_180 ?_
    refine x_iload_n (x_at tdX4_readPromise 50 rfl) rfl rfl ?_
    refine x_iload_n (x_at tdX4_readPromise 51 rfl) rfl rfl ?_
    refine x_iast (lC_28 h) (x_at tdX4_readPromise 52 rfl) H.1 ?_
    have H := H.2
    refine x_iconst (x_at tdX4_readPromise 53 rfl) k_c_1 ?_
    exact x_ireturn (ty := .boolean) rfl zb1.1 (x_at tdX4_readPromise 54 rfl) ⟨_, rfl, H⟩
  · have H := H.2 c
    refine x_iconst (x_at tdX4_readPromise 42 rfl) k_c_0 ?_
    exact x_ireturn (ty := .boolean) rfl zb0.1 (x_at tdX4_readPromise 43 rfl) ⟨_, rfl, H⟩
theorem e_Tk_takesWord {h : xH} {d : Nat} {x1 : Int32} {S : xSt} {K : Int32 → xSt → Prop}  (H : M_Tk_isWord h (d + 9) x1 S (fun (r1 : Int32) (S1 : xSt) => ((¬ r1 = 0 → M_Tk_advance h d S1 (fun (S2 : xSt) => K 1 S2)) ∧ (r1 = 0 → M_Tk_refuse h (d + 8) 2 S1 (fun (r3 : Int32) (S3 : xSt) => (zb r3 ∧ K r3 S3)))))) : M_Tk_takesWord h d x1 S K := by
  refine x_enter pn_X7 (Nat.le_of_ble_eq_true rfl) ?_
  show X (gC h) _ _ 0 [(0, .ref (x_ad (gC h) 19)), (1, .int x1)] [] S _
  refine x_aload_n (x_at tdX7_takesWord 0 rfl) rfl rfl ?_
  refine x_iload_n (x_at tdX7_takesWord 1 rfl) rfl rfl ?_
  refine x_cVi (as := [.int x1]) (rest := []) mi_X7_isWord vc_7 (lC_19 h) (x_at tdX7_takesWord 2 rfl) wm_X7_79 rfl (Nat.le_of_ble_eq_true rfl) rfl H (fun r1 S1 H => ?_)
  refine x_if_ne 14 (x_at tdX7_takesWord 3 rfl) rfl (fun c => ?_) (fun c => ?_)
  · have H := H.1 c
    refine x_aload_n (x_at tdX7_takesWord 8 rfl) rfl rfl ?_
    refine x_cVv (as := []) (rest := []) mi_X7_advance vc_7 (lC_19 h) (x_at tdX7_takesWord 9 rfl) wm_X7_34 rfl (Nat.le_of_ble_eq_true rfl) rfl H (fun S2 H => ?_)
    refine x_iconst (x_at tdX7_takesWord 10 rfl) k_c_1 ?_
    exact x_ireturn (ty := .boolean) rfl zb1.1 (x_at tdX7_takesWord 11 rfl) ⟨_, rfl, H⟩
  · have H := H.2 c
    refine x_aload_n (x_at tdX7_takesWord 4 rfl) rfl rfl ?_
    refine x_iconst (x_at tdX7_takesWord 5 rfl) k_c_2 ?_
    refine x_cVi (as := [.int 2]) (rest := []) mi_X7_refuse vc_7 (lC_19 h) (x_at tdX7_takesWord 6 rfl) wm_X7_83 rfl (Nat.le_of_ble_eq_true rfl) rfl H (fun r3 S3 H => ?_)
    exact x_ireturn (ty := .boolean) rfl H.1.1 (x_at tdX7_takesWord 7 rfl) ⟨_, rfl, H.2⟩
theorem e_Rd_readWhose {h : xH} {d : Nat} {x1 : Int32} {S : xSt} {K : Int32 → xSt → Prop}  (H : M_Tk_takesWord h d 7 S (fun (r1 : Int32) (S1 : xSt) => ((¬ r1 = 0 → M_Rd_oldName h (d + 8) 38 (S1.1 21 0) S1 (fun (r2 : Int32) (S2 : xSt) => ((¬ r2 = (-1) → M_Tk_advance h (d + 1) S2 (fun (S3 : xSt) => M_Tk_takesWord h d 8 S3 (fun (r4 : Int32) (S4 : xSt) => ((¬ r4 = 0 → M_Rd_oldName h (d + 8) 38 (S4.1 21 0) S4 (fun (r5 : Int32) (S5 : xSt) => ((¬ r5 = (-1) → ((¬ r5 = r2 → M_Tk_advance h (d + 1) S5 (fun (S6 : xSt) => (vp_in x1 10 ∧ (vp_in x1 10 ∧ K 1 (x_putI (x_putI S6 26 (x1 : Int32).toNatClampNeg r2) 27 (x1 : Int32).toNatClampNeg r5))))) ∧ (r5 = r2 → M_Tk_refuse h (d + 9) 3 S5 (fun (r7 : Int32) (S7 : xSt) => (zb r7 ∧ K r7 S7))))) ∧ (r5 = (-1) → K 0 S5)))) ∧ (r4 = 0 → K 0 S4))))) ∧ (r2 = (-1) → K 0 S2)))) ∧ (r1 = 0 → K 0 S1)))) : M_Rd_readWhose h d x1 S K := by
  refine x_enter pn_X4 (Nat.le_of_ble_eq_true rfl) ?_
  show X (gC h) _ _ 0 [(0, .ref (x_ad (gC h) 18)), (1, .int x1)] [] S _
  refine x_aload_n (x_at tdX4_readWhose 0 rfl) rfl rfl ?_
  refine gfC_18_0 (x_at tdX4_readWhose 1 rfl) wf_X4_12 ?_
  refine x_bipush (x_at tdX4_readWhose 2 rfl) k_b_7 ?_
  refine x_cVi (as := [.int 7]) (rest := []) mi_X7_takesWord vc_7 (lC_19 h) (x_at tdX4_readWhose 3 rfl) wm_X4_139 rfl (Nat.le_of_ble_eq_true rfl) rfl H (fun r1 S1 H => ?_)
  refine x_if_ne 14 (x_at tdX4_readWhose 4 rfl) rfl (fun c => ?_) (fun c => ?_)
  · have H := H.1 c
    refine x_aload_n (x_at tdX4_readWhose 7 rfl) rfl rfl ?_
    refine x_aload_n (x_at tdX4_readWhose 8 rfl) rfl rfl ?_
    refine gfC_18_3 (x_at tdX4_readWhose 9 rfl) wf_X4_38 ?_
    refine x_aload_n (x_at tdX4_readWhose 10 rfl) rfl rfl ?_
    refine gfC_18_1 (x_at tdX4_readWhose 11 rfl) wf_X4_21 ?_
    refine gfC_21_0 (x_at tdX4_readWhose 12 rfl) wf_X4_104 ?_
    refine x_cVi (as := [.ref (x_ad (gC h) 38), .int (S1.1 21 0)]) (rest := []) mi_X4_oldName vc_4 (lC_18 h) (x_at tdX4_readWhose 13 rfl) wm_X4_167 rfl (Nat.le_of_ble_eq_true rfl) rfl H (fun r2 S2 H => ?_)
    refine x_istore_n (x_at tdX4_readWhose 14 rfl) rfl (by decide) ?_
    refine x_iload_n (x_at tdX4_readWhose 15 rfl) rfl rfl ?_
    refine x_iconst (x_at tdX4_readWhose 16 rfl) k_c_m1 ?_
    refine x_ic_ne 37 (x_at tdX4_readWhose 17 rfl) rfl (fun c => ?_) (fun c => ?_)
    · have H := H.1 c
      refine x_aload_n (x_at tdX4_readWhose 20 rfl) rfl rfl ?_
      refine gfC_18_0 (x_at tdX4_readWhose 21 rfl) wf_X4_12 ?_
      refine x_cVv (as := []) (rest := []) mi_X7_advance vc_7 (lC_19 h) (x_at tdX4_readWhose 22 rfl) wm_X4_101 rfl (Nat.le_of_ble_eq_true rfl) rfl H (fun S3 H => ?_)
      refine x_aload_n (x_at tdX4_readWhose 23 rfl) rfl rfl ?_
      refine gfC_18_0 (x_at tdX4_readWhose 24 rfl) wf_X4_12 ?_
      refine x_bipush (x_at tdX4_readWhose 25 rfl) k_b_8 ?_
      refine x_cVi (as := [.int 8]) (rest := []) mi_X7_takesWord vc_7 (lC_19 h) (x_at tdX4_readWhose 26 rfl) wm_X4_139 rfl (Nat.le_of_ble_eq_true rfl) rfl H (fun r4 S4 H => ?_)
      refine x_if_ne 58 (x_at tdX4_readWhose 27 rfl) rfl (fun c => ?_) (fun c => ?_)
      · have H := H.1 c
        refine x_aload_n (x_at tdX4_readWhose 30 rfl) rfl rfl ?_
        refine x_aload_n (x_at tdX4_readWhose 31 rfl) rfl rfl ?_
        refine gfC_18_3 (x_at tdX4_readWhose 32 rfl) wf_X4_38 ?_
        refine x_aload_n (x_at tdX4_readWhose 33 rfl) rfl rfl ?_
        refine gfC_18_1 (x_at tdX4_readWhose 34 rfl) wf_X4_21 ?_
        refine gfC_21_0 (x_at tdX4_readWhose 35 rfl) wf_X4_104 ?_
        refine x_cVi (as := [.ref (x_ad (gC h) 38), .int (S4.1 21 0)]) (rest := []) mi_X4_oldName vc_4 (lC_18 h) (x_at tdX4_readWhose 36 rfl) wm_X4_167 rfl (Nat.le_of_ble_eq_true rfl) rfl H (fun r5 S5 H => ?_)
        refine x_istore_n (x_at tdX4_readWhose 37 rfl) rfl (by decide) ?_
        refine x_iload_n (x_at tdX4_readWhose 38 rfl) rfl rfl ?_
        refine x_iconst (x_at tdX4_readWhose 39 rfl) k_c_m1 ?_
        refine x_ic_ne 81 (x_at tdX4_readWhose 40 rfl) rfl (fun c => ?_) (fun c => ?_)
        · have H := H.1 c
          refine x_iload_n (x_at tdX4_readWhose 43 rfl) rfl rfl ?_
          refine x_iload_n (x_at tdX4_readWhose 44 rfl) rfl rfl ?_
          refine x_ic_ne 95 (x_at tdX4_readWhose 45 rfl) rfl (fun c => ?_) (fun c => ?_)
          · have H := H.1 c
            refine x_aload_n (x_at tdX4_readWhose 51 rfl) rfl rfl ?_
            refine gfC_18_0 (x_at tdX4_readWhose 52 rfl) wf_X4_12 ?_
            refine x_cVv (as := []) (rest := []) mi_X7_advance vc_7 (lC_19 h) (x_at tdX4_readWhose 53 rfl) wm_X4_101 rfl (Nat.le_of_ble_eq_true rfl) rfl H (fun S6 H => ?_)
            refine x_aload_n (x_at tdX4_readWhose 54 rfl) rfl rfl ?_
            refine gfC_18_1 (x_at tdX4_readWhose 55 rfl) wf_X4_21 ?_
            refine gfC_21_7 (x_at tdX4_readWhose 56 rfl) wf_X4_171 ?_
            refine x_iload_n (x_at tdX4_readWhose 57 rfl) rfl rfl ?_
            refine x_iload_n (x_at tdX4_readWhose 58 rfl) rfl rfl ?_
            refine x_iast (lC_26 h) (x_at tdX4_readWhose 59 rfl) H.1 ?_
            have H := H.2
            refine x_aload_n (x_at tdX4_readWhose 60 rfl) rfl rfl ?_
            refine gfC_18_1 (x_at tdX4_readWhose 61 rfl) wf_X4_21 ?_
            refine gfC_21_8 (x_at tdX4_readWhose 62 rfl) wf_X4_174 ?_
            refine x_iload_n (x_at tdX4_readWhose 63 rfl) rfl rfl ?_
            refine x_iload_n (x_at tdX4_readWhose 64 rfl) rfl rfl ?_
            refine x_iast (lC_27 h) (x_at tdX4_readWhose 65 rfl) H.1 ?_
            have H := H.2
            refine x_iconst (x_at tdX4_readWhose 66 rfl) k_c_1 ?_
            exact x_ireturn (ty := .boolean) rfl zb1.1 (x_at tdX4_readWhose 67 rfl) ⟨_, rfl, H⟩
          · have H := H.2 c
            refine x_aload_n (x_at tdX4_readWhose 46 rfl) rfl rfl ?_
            refine gfC_18_0 (x_at tdX4_readWhose 47 rfl) wf_X4_12 ?_
            refine x_iconst (x_at tdX4_readWhose 48 rfl) k_c_3 ?_
            refine x_cVi (as := [.int 3]) (rest := []) mi_X7_refuse vc_7 (lC_19 h) (x_at tdX4_readWhose 49 rfl) wm_X4_93 rfl (Nat.le_of_ble_eq_true rfl) rfl H (fun r7 S7 H => ?_)
            exact x_ireturn (ty := .boolean) rfl H.1.1 (x_at tdX4_readWhose 50 rfl) ⟨_, rfl, H.2⟩
        · have H := H.2 c
          refine x_iconst (x_at tdX4_readWhose 41 rfl) k_c_0 ?_
          exact x_ireturn (ty := .boolean) rfl zb0.1 (x_at tdX4_readWhose 42 rfl) ⟨_, rfl, H⟩
      · have H := H.2 c
        refine x_iconst (x_at tdX4_readWhose 28 rfl) k_c_0 ?_
        exact x_ireturn (ty := .boolean) rfl zb0.1 (x_at tdX4_readWhose 29 rfl) ⟨_, rfl, H⟩
    · have H := H.2 c
      refine x_iconst (x_at tdX4_readWhose 18 rfl) k_c_0 ?_
      exact x_ireturn (ty := .boolean) rfl zb0.1 (x_at tdX4_readWhose 19 rfl) ⟨_, rfl, H⟩
  · have H := H.2 c
    refine x_iconst (x_at tdX4_readWhose 5 rfl) k_c_0 ?_
    exact x_ireturn (ty := .boolean) rfl zb0.1 (x_at tdX4_readWhose 6 rfl) ⟨_, rfl, H⟩
theorem e_Rd_readButton {h : xH} {d : Nat}  {S : xSt} {K : Int32 → xSt → Prop}  (H : M_Rd_opens h (d + 1) (S.1 21 6) 10 S (fun (r1 : Int32) (S1 : xSt) => ((r1 = 0 → K 0 S1) ∧ (¬ r1 = 0 → M_Rd_isNewName h (d + 9) 40 (S.1 21 6) S1 (fun (r2 : Int32) (S2 : xSt) => ((¬ r2 = 0 → (vp_in (S.1 21 6) 10 ∧ M_Tk_advance h (d + 2) (x_putL S2 40 ((S.1 21 6) : Int32).toNatClampNeg (S2.2.1 19 6)) (fun (S3 : xSt) => M_Rd_readWhose h d (S.1 21 6) S3 (fun (r4 : Int32) (S4 : xSt) => ((r4 = 0 → K 0 S4) ∧ (¬ r4 = 0 → M_Rd_readPromise h (d + 1) (S.1 21 6) S4 (fun (r5 : Int32) (S5 : xSt) => ((¬ r5 = 0 → M_Rd_optional h d 11 1 60 60 S5 (fun (r6 : Int32) (S6 : xSt) => (vp_in (S.1 21 6) 10 ∧ (vp_in (S.1 21 6) 10 ∧ ((¬ r6 = (-1) → M_Rd_optional h d 12 1 99 10 (x_putI S6 30 ((S.1 21 6) : Int32).toNatClampNeg r6) (fun (r7 : Int32) (S7 : xSt) => (vp_in (S.1 21 6) 10 ∧ (vp_in (S.1 21 6) 10 ∧ ((r7 = (-1) → K 0 (x_putI S7 31 ((S.1 21 6) : Int32).toNatClampNeg r7)) ∧ (¬ r7 = (-1) → M_Rd_readAfter h (d + 1) (S.1 21 6) (x_putI S7 31 ((S.1 21 6) : Int32).toNatClampNeg r7) (fun (r8 : Int32) (S8 : xSt) => ((¬ r8 = 0 → K 1 (x_putI S8 21 6 ((S8.1 21 6) + (1 : Int32)))) ∧ (r8 = 0 → K 0 S8))))))))) ∧ (r6 = (-1) → K 0 (x_putI S6 30 ((S.1 21 6) : Int32).toNatClampNeg r6))))))) ∧ (r5 = 0 → K 0 S5))))))))) ∧ (r2 = 0 → K 0 S2))))))) : M_Rd_readButton h d S K := by
  refine x_enter pn_X4 (Nat.le_of_ble_eq_true rfl) ?_
  show X (gC h) _ _ 0 [(0, .ref (x_ad (gC h) 18))] [] S _
  refine x_aload_n (x_at tdX4_readButton 0 rfl) rfl rfl ?_
  refine gfC_18_1 (x_at tdX4_readButton 1 rfl) wf_X4_21 ?_
  refine gfC_21_6 (x_at tdX4_readButton 2 rfl) wf_X4_149 ?_
  refine x_istore_n (x_at tdX4_readButton 3 rfl) rfl (by decide) ?_
  refine x_aload_n (x_at tdX4_readButton 4 rfl) rfl rfl ?_
  refine x_iload_n (x_at tdX4_readButton 5 rfl) rfl rfl ?_
  refine x_bipush (x_at tdX4_readButton 6 rfl) k_b_10 ?_
  refine x_cVi (as := [.int (S.1 21 6), .int 10]) (rest := []) mi_X4_opens vc_4 (lC_18 h) (x_at tdX4_readButton 7 rfl) wm_X4_107 rfl (Nat.le_of_ble_eq_true rfl) rfl H (fun r1 S1 H => ?_)
  refine x_if_eq 30 (x_at tdX4_readButton 8 rfl) rfl (fun c => ?_) (fun c => ?_)
  · have H := H.1 c
    refine x_iconst (x_at tdX4_readButton 15 rfl) k_c_0 ?_
    exact x_ireturn (ty := .boolean) rfl zb0.1 (x_at tdX4_readButton 16 rfl) ⟨_, rfl, H⟩
  · have H := H.2 c
    refine x_aload_n (x_at tdX4_readButton 9 rfl) rfl rfl ?_
    refine x_aload_n (x_at tdX4_readButton 10 rfl) rfl rfl ?_
    refine gfC_18_5 (x_at tdX4_readButton 11 rfl) wf_X4_45 ?_
    refine x_iload_n (x_at tdX4_readButton 12 rfl) rfl rfl ?_
    refine x_cVi (as := [.ref (x_ad (gC h) 40), .int (S.1 21 6)]) (rest := []) mi_X4_isNewName vc_4 (lC_18 h) (x_at tdX4_readButton 13 rfl) wm_X4_111 rfl (Nat.le_of_ble_eq_true rfl) rfl H (fun r2 S2 H => ?_)
    refine x_if_ne 32 (x_at tdX4_readButton 14 rfl) rfl (fun c => ?_) (fun c => ?_)
    · have H := H.1 c
      refine x_aload_n (x_at tdX4_readButton 17 rfl) rfl rfl ?_
      refine gfC_18_5 (x_at tdX4_readButton 18 rfl) wf_X4_45 ?_
      refine x_iload_n (x_at tdX4_readButton 19 rfl) rfl rfl ?_
      refine x_aload_n (x_at tdX4_readButton 20 rfl) rfl rfl ?_
      refine gfC_18_0 (x_at tdX4_readButton 21 rfl) wf_X4_12 ?_
      refine gfC_19_6 (x_at tdX4_readButton 22 rfl) wf_X4_115 ?_
      refine x_last (lC_40 h) (x_at tdX4_readButton 23 rfl) H.1 ?_
      have H := H.2
      refine x_aload_n (x_at tdX4_readButton 24 rfl) rfl rfl ?_
      refine gfC_18_0 (x_at tdX4_readButton 25 rfl) wf_X4_12 ?_
      refine x_cVv (as := []) (rest := []) mi_X7_advance vc_7 (lC_19 h) (x_at tdX4_readButton 26 rfl) wm_X4_101 rfl (Nat.le_of_ble_eq_true rfl) rfl H (fun S3 H => ?_)
      refine x_aload_n (x_at tdX4_readButton 27 rfl) rfl rfl ?_
      refine x_iload_n (x_at tdX4_readButton 28 rfl) rfl rfl ?_
      refine x_cVi (as := [.int (S.1 21 6)]) (rest := []) mi_X4_readWhose vc_4 (lC_18 h) (x_at tdX4_readButton 29 rfl) wm_X4_152 rfl (Nat.le_of_ble_eq_true rfl) rfl H (fun r4 S4 H => ?_)
      refine x_if_eq 68 (x_at tdX4_readButton 30 rfl) rfl (fun c => ?_) (fun c => ?_)
      · have H := H.1 c
        refine x_iconst (x_at tdX4_readButton 35 rfl) k_c_0 ?_
        exact x_ireturn (ty := .boolean) rfl zb0.1 (x_at tdX4_readButton 36 rfl) ⟨_, rfl, H⟩
      · have H := H.2 c
        refine x_aload_n (x_at tdX4_readButton 31 rfl) rfl rfl ?_
        refine x_iload_n (x_at tdX4_readButton 32 rfl) rfl rfl ?_
        refine x_cVi (as := [.int (S.1 21 6)]) (rest := []) mi_X4_readPromise vc_4 (lC_18 h) (x_at tdX4_readButton 33 rfl) wm_X4_155 rfl (Nat.le_of_ble_eq_true rfl) rfl H (fun r5 S5 H => ?_)
        refine x_if_ne 70 (x_at tdX4_readButton 34 rfl) rfl (fun c => ?_) (fun c => ?_)
        · have H := H.1 c
          refine x_aload_n (x_at tdX4_readButton 37 rfl) rfl rfl ?_
          refine gfC_18_1 (x_at tdX4_readButton 38 rfl) wf_X4_21 ?_
          refine gfC_21_11 (x_at tdX4_readButton 39 rfl) wf_X4_158 ?_
          refine x_iload_n (x_at tdX4_readButton 40 rfl) rfl rfl ?_
          refine x_aload_n (x_at tdX4_readButton 41 rfl) rfl rfl ?_
          refine x_bipush (x_at tdX4_readButton 42 rfl) k_b_11 ?_
          refine x_iconst (x_at tdX4_readButton 43 rfl) k_c_1 ?_
          refine x_bipush (x_at tdX4_readButton 44 rfl) k_b_60 ?_
          refine x_bipush (x_at tdX4_readButton 45 rfl) k_b_60 ?_
          refine x_cVi (as := [.int 11, .int 1, .int 60, .int 60]) (rest := [.int (S.1 21 6), .ref (x_ad (gC h) 30)]) mi_X4_optional vc_4 (lC_18 h) (x_at tdX4_readButton 46 rfl) wm_X4_123 rfl (Nat.le_of_ble_eq_true rfl) rfl H (fun r6 S6 H => ?_)
          refine x_iast (lC_30 h) (x_at tdX4_readButton 47 rfl) H.1 ?_
          have H := H.2
          refine x_aload_n (x_at tdX4_readButton 48 rfl) rfl rfl ?_
          refine gfC_18_1 (x_at tdX4_readButton 49 rfl) wf_X4_21 ?_
          refine gfC_21_11 (x_at tdX4_readButton 50 rfl) wf_X4_158 ?_
          refine x_iload_n (x_at tdX4_readButton 51 rfl) rfl rfl ?_
          refine x_iald (lC_30 h) (x_at tdX4_readButton 52 rfl) H.1 ?_
          have H := H.2
          refine x_top (v := r6) (by simp [x_putI, upd]) ?_
          refine x_iconst (x_at tdX4_readButton 53 rfl) k_c_m1 ?_
          refine x_ic_ne 105 (x_at tdX4_readButton 54 rfl) rfl (fun c => ?_) (fun c => ?_)
          · have H := H.1 c
            refine x_aload_n (x_at tdX4_readButton 57 rfl) rfl rfl ?_
            refine gfC_18_1 (x_at tdX4_readButton 58 rfl) wf_X4_21 ?_
            refine gfC_21_12 (x_at tdX4_readButton 59 rfl) wf_X4_161 ?_
            refine x_iload_n (x_at tdX4_readButton 60 rfl) rfl rfl ?_
            refine x_aload_n (x_at tdX4_readButton 61 rfl) rfl rfl ?_
            refine x_bipush (x_at tdX4_readButton 62 rfl) k_b_12 ?_
            refine x_iconst (x_at tdX4_readButton 63 rfl) k_c_1 ?_
            refine x_bipush (x_at tdX4_readButton 64 rfl) k_b_99 ?_
            refine x_bipush (x_at tdX4_readButton 65 rfl) k_b_10 ?_
            refine x_cVi (as := [.int 12, .int 1, .int 99, .int 10]) (rest := [.int (S.1 21 6), .ref (x_ad (gC h) 31)]) mi_X4_optional vc_4 (lC_18 h) (x_at tdX4_readButton 66 rfl) wm_X4_123 rfl (Nat.le_of_ble_eq_true rfl) rfl H (fun r7 S7 H => ?_)
            refine x_iast (lC_31 h) (x_at tdX4_readButton 67 rfl) H.1 ?_
            have H := H.2
            refine x_aload_n (x_at tdX4_readButton 68 rfl) rfl rfl ?_
            refine gfC_18_1 (x_at tdX4_readButton 69 rfl) wf_X4_21 ?_
            refine gfC_21_12 (x_at tdX4_readButton 70 rfl) wf_X4_161 ?_
            refine x_iload_n (x_at tdX4_readButton 71 rfl) rfl rfl ?_
            refine x_iald (lC_31 h) (x_at tdX4_readButton 72 rfl) H.1 ?_
            have H := H.2
            refine x_top (v := r7) (by simp [x_putI, upd]) ?_
            refine x_iconst (x_at tdX4_readButton 73 rfl) k_c_m1 ?_
            refine x_ic_eq 146 (x_at tdX4_readButton 74 rfl) rfl (fun c => ?_) (fun c => ?_)
            · have H := H.1 c
              refine x_iconst (x_at tdX4_readButton 79 rfl) k_c_0 ?_
              exact x_ireturn (ty := .boolean) rfl zb0.1 (x_at tdX4_readButton 80 rfl) ⟨_, rfl, H⟩
            · have H := H.2 c
              refine x_aload_n (x_at tdX4_readButton 75 rfl) rfl rfl ?_
              refine x_iload_n (x_at tdX4_readButton 76 rfl) rfl rfl ?_
              refine x_cVi (as := [.int (S.1 21 6)]) (rest := []) mi_X4_readAfter vc_4 (lC_18 h) (x_at tdX4_readButton 77 rfl) wm_X4_164 rfl (Nat.le_of_ble_eq_true rfl) rfl H (fun r8 S8 H => ?_)
              refine x_if_ne 148 (x_at tdX4_readButton 78 rfl) rfl (fun c => ?_) (fun c => ?_)
              · have H := H.1 c
                refine x_aload_n (x_at tdX4_readButton 81 rfl) rfl rfl ?_
                refine gfC_18_1 (x_at tdX4_readButton 82 rfl) wf_X4_21 ?_
                refine x_dup (x_at tdX4_readButton 83 rfl) rfl ?_
                refine gfC_21_6 (x_at tdX4_readButton 84 rfl) wf_X4_149 ?_
                refine x_iconst (x_at tdX4_readButton 85 rfl) k_c_1 ?_
                refine x_iadd (x_at tdX4_readButton 86 rfl) ?_
                refine pfC_21_6 (x_at tdX4_readButton 87 rfl) wf_X4_149 ?_
                refine x_iconst (x_at tdX4_readButton 88 rfl) k_c_1 ?_
                exact x_ireturn (ty := .boolean) rfl zb1.1 (x_at tdX4_readButton 89 rfl) ⟨_, rfl, H⟩
              · have H := H.2 c
                refine x_iconst (x_at tdX4_readButton 79 rfl) k_c_0 ?_
                exact x_ireturn (ty := .boolean) rfl zb0.1 (x_at tdX4_readButton 80 rfl) ⟨_, rfl, H⟩
          · have H := H.2 c
            refine x_iconst (x_at tdX4_readButton 55 rfl) k_c_0 ?_
            exact x_ireturn (ty := .boolean) rfl zb0.1 (x_at tdX4_readButton 56 rfl) ⟨_, rfl, H⟩
        · have H := H.2 c
          refine x_iconst (x_at tdX4_readButton 35 rfl) k_c_0 ?_
          exact x_ireturn (ty := .boolean) rfl zb0.1 (x_at tdX4_readButton 36 rfl) ⟨_, rfl, H⟩
    · have H := H.2 c
      refine x_iconst (x_at tdX4_readButton 15 rfl) k_c_0 ?_
      exact x_ireturn (ty := .boolean) rfl zb0.1 (x_at tdX4_readButton 16 rfl) ⟨_, rfl, H⟩
theorem e_Rd_readDeed {h : xH} {d : Nat}  {S : xSt} {K : Int32 → xSt → Prop}  (H : M_Rd_opens h d (S.1 21 4) 6 S (fun (r1 : Int32) (S1 : xSt) => ((r1 = 0 → K 0 S1) ∧ (¬ r1 = 0 → M_Rd_isNewName h (d + 8) 39 (S.1 21 4) S1 (fun (r2 : Int32) (S2 : xSt) => ((¬ r2 = 0 → (vp_in (S.1 21 4) 6 ∧ M_Tk_advance h (d + 1) (x_putL S2 39 ((S.1 21 4) : Int32).toNatClampNeg (S2.2.1 19 6)) (fun (S3 : xSt) => M_Tk_takesWord h d 5 S3 (fun (r4 : Int32) (S4 : xSt) => ((¬ r4 = 0 → M_Rd_number h d 1 24 S4 (fun (r5 : Int32) (S5 : xSt) => (vp_in (S.1 21 4) 6 ∧ (vp_in (S.1 21 4) 6 ∧ ((r5 = (-1) → K 0 (x_putI (x_putI S5 25 ((S.1 21 4) : Int32).toNatClampNeg r5) 21 4 ((S5.1 21 4) + (1 : Int32)))) ∧ (¬ r5 = (-1) → K 1 (x_putI (x_putI S5 25 ((S.1 21 4) : Int32).toNatClampNeg r5) 21 4 ((S5.1 21 4) + (1 : Int32))))))))) ∧ (r4 = 0 → K 0 S4)))))) ∧ (r2 = 0 → K 0 S2))))))) : M_Rd_readDeed h d S K := by
  refine x_enter pn_X4 (Nat.le_of_ble_eq_true rfl) ?_
  show X (gC h) _ _ 0 [(0, .ref (x_ad (gC h) 18))] [] S _
  refine x_aload_n (x_at tdX4_readDeed 0 rfl) rfl rfl ?_
  refine gfC_18_1 (x_at tdX4_readDeed 1 rfl) wf_X4_21 ?_
  refine gfC_21_4 (x_at tdX4_readDeed 2 rfl) wf_X4_136 ?_
  refine x_istore_n (x_at tdX4_readDeed 3 rfl) rfl (by decide) ?_
  refine x_aload_n (x_at tdX4_readDeed 4 rfl) rfl rfl ?_
  refine x_iload_n (x_at tdX4_readDeed 5 rfl) rfl rfl ?_
  refine x_bipush (x_at tdX4_readDeed 6 rfl) k_b_6 ?_
  refine x_cVi (as := [.int (S.1 21 4), .int 6]) (rest := []) mi_X4_opens vc_4 (lC_18 h) (x_at tdX4_readDeed 7 rfl) wm_X4_107 rfl (Nat.le_of_ble_eq_true rfl) rfl H (fun r1 S1 H => ?_)
  refine x_if_eq 30 (x_at tdX4_readDeed 8 rfl) rfl (fun c => ?_) (fun c => ?_)
  · have H := H.1 c
    refine x_iconst (x_at tdX4_readDeed 15 rfl) k_c_0 ?_
    exact x_ireturn (ty := .boolean) rfl zb0.1 (x_at tdX4_readDeed 16 rfl) ⟨_, rfl, H⟩
  · have H := H.2 c
    refine x_aload_n (x_at tdX4_readDeed 9 rfl) rfl rfl ?_
    refine x_aload_n (x_at tdX4_readDeed 10 rfl) rfl rfl ?_
    refine gfC_18_4 (x_at tdX4_readDeed 11 rfl) wf_X4_42 ?_
    refine x_iload_n (x_at tdX4_readDeed 12 rfl) rfl rfl ?_
    refine x_cVi (as := [.ref (x_ad (gC h) 39), .int (S.1 21 4)]) (rest := []) mi_X4_isNewName vc_4 (lC_18 h) (x_at tdX4_readDeed 13 rfl) wm_X4_111 rfl (Nat.le_of_ble_eq_true rfl) rfl H (fun r2 S2 H => ?_)
    refine x_if_ne 32 (x_at tdX4_readDeed 14 rfl) rfl (fun c => ?_) (fun c => ?_)
    · have H := H.1 c
      refine x_aload_n (x_at tdX4_readDeed 17 rfl) rfl rfl ?_
      refine gfC_18_4 (x_at tdX4_readDeed 18 rfl) wf_X4_42 ?_
      refine x_iload_n (x_at tdX4_readDeed 19 rfl) rfl rfl ?_
      refine x_aload_n (x_at tdX4_readDeed 20 rfl) rfl rfl ?_
      refine gfC_18_0 (x_at tdX4_readDeed 21 rfl) wf_X4_12 ?_
      refine gfC_19_6 (x_at tdX4_readDeed 22 rfl) wf_X4_115 ?_
      refine x_last (lC_39 h) (x_at tdX4_readDeed 23 rfl) H.1 ?_
      have H := H.2
      refine x_aload_n (x_at tdX4_readDeed 24 rfl) rfl rfl ?_
      refine gfC_18_0 (x_at tdX4_readDeed 25 rfl) wf_X4_12 ?_
      refine x_cVv (as := []) (rest := []) mi_X7_advance vc_7 (lC_19 h) (x_at tdX4_readDeed 26 rfl) wm_X4_101 rfl (Nat.le_of_ble_eq_true rfl) rfl H (fun S3 H => ?_)
      refine x_aload_n (x_at tdX4_readDeed 27 rfl) rfl rfl ?_
      refine gfC_18_0 (x_at tdX4_readDeed 28 rfl) wf_X4_12 ?_
      refine x_iconst (x_at tdX4_readDeed 29 rfl) k_c_5 ?_
      refine x_cVi (as := [.int 5]) (rest := []) mi_X7_takesWord vc_7 (lC_19 h) (x_at tdX4_readDeed 30 rfl) wm_X4_139 rfl (Nat.le_of_ble_eq_true rfl) rfl H (fun r4 S4 H => ?_)
      refine x_if_ne 65 (x_at tdX4_readDeed 31 rfl) rfl (fun c => ?_) (fun c => ?_)
      · have H := H.1 c
        refine x_aload_n (x_at tdX4_readDeed 34 rfl) rfl rfl ?_
        refine gfC_18_1 (x_at tdX4_readDeed 35 rfl) wf_X4_21 ?_
        refine gfC_21_5 (x_at tdX4_readDeed 36 rfl) wf_X4_142 ?_
        refine x_iload_n (x_at tdX4_readDeed 37 rfl) rfl rfl ?_
        refine x_aload_n (x_at tdX4_readDeed 38 rfl) rfl rfl ?_
        refine x_iconst (x_at tdX4_readDeed 39 rfl) k_c_1 ?_
        refine x_bipush (x_at tdX4_readDeed 40 rfl) k_b_24 ?_
        refine x_cVi (as := [.int 1, .int 24]) (rest := [.int (S.1 21 4), .ref (x_ad (gC h) 25)]) mi_X4_number vc_4 (lC_18 h) (x_at tdX4_readDeed 41 rfl) wm_X4_145 rfl (Nat.le_of_ble_eq_true rfl) rfl H (fun r5 S5 H => ?_)
        refine x_iast (lC_25 h) (x_at tdX4_readDeed 42 rfl) H.1 ?_
        have H := H.2
        refine x_aload_n (x_at tdX4_readDeed 43 rfl) rfl rfl ?_
        refine gfC_18_1 (x_at tdX4_readDeed 44 rfl) wf_X4_21 ?_
        refine x_dup (x_at tdX4_readDeed 45 rfl) rfl ?_
        refine gfC_21_4 (x_at tdX4_readDeed 46 rfl) wf_X4_136 ?_
        refine x_top (v := (S5.1 21 4)) rfl ?_
        refine x_iconst (x_at tdX4_readDeed 47 rfl) k_c_1 ?_
        refine x_iadd (x_at tdX4_readDeed 48 rfl) ?_
        refine pfC_21_4 (x_at tdX4_readDeed 49 rfl) wf_X4_136 ?_
        refine x_aload_n (x_at tdX4_readDeed 50 rfl) rfl rfl ?_
        refine gfC_18_1 (x_at tdX4_readDeed 51 rfl) wf_X4_21 ?_
        refine gfC_21_5 (x_at tdX4_readDeed 52 rfl) wf_X4_142 ?_
        refine x_iload_n (x_at tdX4_readDeed 53 rfl) rfl rfl ?_
        refine x_iald (lC_25 h) (x_at tdX4_readDeed 54 rfl) H.1 ?_
        have H := H.2
        refine x_top (v := r5) (by simp [x_putI, upd]) ?_
        refine x_iconst (x_at tdX4_readDeed 55 rfl) k_c_m1 ?_
        refine x_ic_eq 111 (x_at tdX4_readDeed 56 rfl) rfl (fun c => ?_) (fun c => ?_)
        · have H := H.1 c
          refine x_iconst (x_at tdX4_readDeed 59 rfl) k_c_0 ?_
          exact x_ireturn (ty := .boolean) rfl zb0.1 (x_at tdX4_readDeed 60 rfl) ⟨_, rfl, H⟩
        · have H := H.2 c
          refine x_iconst (x_at tdX4_readDeed 57 rfl) k_c_1 ?_
          refine x_goto 112 (x_at tdX4_readDeed 58 rfl) rfl ?_
          exact x_ireturn (ty := .boolean) rfl zb1.1 (x_at tdX4_readDeed 60 rfl) ⟨_, rfl, H⟩
      · have H := H.2 c
        refine x_iconst (x_at tdX4_readDeed 32 rfl) k_c_0 ?_
        exact x_ireturn (ty := .boolean) rfl zb0.1 (x_at tdX4_readDeed 33 rfl) ⟨_, rfl, H⟩
    · have H := H.2 c
      refine x_iconst (x_at tdX4_readDeed 15 rfl) k_c_0 ?_
      exact x_ireturn (ty := .boolean) rfl zb0.1 (x_at tdX4_readDeed 16 rfl) ⟨_, rfl, H⟩
theorem e_Rd_readDraw {h : xH} {d : Nat}  {S : xSt} {K : Int32 → xSt → Prop}  (H : M_Rd_opensOnce h d S (fun (r1 : Int32) (S1 : xSt) => ((¬ r1 = 0 → M_Rd_number h d 0 999 S1 (fun (r2 : Int32) (S2 : xSt) => ((r2 = (-1) → K 0 (x_putI S2 21 19 r2)) ∧ (¬ r2 = (-1) → K 1 (x_putI S2 21 19 r2))))) ∧ (r1 = 0 → K 0 S1)))) : M_Rd_readDraw h d S K := by
  refine x_enter pn_X4 (Nat.le_of_ble_eq_true rfl) ?_
  show X (gC h) _ _ 0 [(0, .ref (x_ad (gC h) 18))] [] S _
  refine x_aload_n (x_at tdX4_readDraw 0 rfl) rfl rfl ?_
  refine x_cVi (as := []) (rest := []) mi_X4_opensOnce vc_4 (lC_18 h) (x_at tdX4_readDraw 1 rfl) wm_X4_78 rfl (Nat.le_of_ble_eq_true rfl) rfl H (fun r1 S1 H => ?_)
  refine x_if_ne 9 (x_at tdX4_readDraw 2 rfl) rfl (fun c => ?_) (fun c => ?_)
  · have H := H.1 c
    refine x_aload_n (x_at tdX4_readDraw 5 rfl) rfl rfl ?_
    refine gfC_18_1 (x_at tdX4_readDraw 6 rfl) wf_X4_21 ?_
    refine x_aload_n (x_at tdX4_readDraw 7 rfl) rfl rfl ?_
    refine x_iconst (x_at tdX4_readDraw 8 rfl) k_c_0 ?_
    refine x_sipush (x_at tdX4_readDraw 9 rfl) k_s_999 ?_
    refine x_cVi (as := [.int 0, .int 999]) (rest := [.ref (x_ad (gC h) 21)]) mi_X4_number vc_4 (lC_18 h) (x_at tdX4_readDraw 10 rfl) wm_X4_145 rfl (Nat.le_of_ble_eq_true rfl) rfl H (fun r2 S2 H => ?_)
    refine pfC_21_19 (x_at tdX4_readDraw 11 rfl) wf_X4_214 ?_
    refine x_aload_n (x_at tdX4_readDraw 12 rfl) rfl rfl ?_
    refine gfC_18_1 (x_at tdX4_readDraw 13 rfl) wf_X4_21 ?_
    refine gfC_21_19 (x_at tdX4_readDraw 14 rfl) wf_X4_214 ?_
    refine x_top (v := r2) rfl ?_
    refine x_iconst (x_at tdX4_readDraw 15 rfl) k_c_m1 ?_
    refine x_ic_eq 39 (x_at tdX4_readDraw 16 rfl) rfl (fun c => ?_) (fun c => ?_)
    · have H := H.1 c
      refine x_iconst (x_at tdX4_readDraw 19 rfl) k_c_0 ?_
      exact x_ireturn (ty := .boolean) rfl zb0.1 (x_at tdX4_readDraw 20 rfl) ⟨_, rfl, H⟩
    · have H := H.2 c
      refine x_iconst (x_at tdX4_readDraw 17 rfl) k_c_1 ?_
      refine x_goto 40 (x_at tdX4_readDraw 18 rfl) rfl ?_
      exact x_ireturn (ty := .boolean) rfl zb1.1 (x_at tdX4_readDraw 20 rfl) ⟨_, rfl, H⟩
  · have H := H.2 c
    refine x_iconst (x_at tdX4_readDraw 3 rfl) k_c_0 ?_
    exact x_ireturn (ty := .boolean) rfl zb0.1 (x_at tdX4_readDraw 4 rfl) ⟨_, rfl, H⟩
theorem e_Rg_befriend_21 {h : xH} {d : Nat} {x1 : Int32} {x2 : Int32} {x3 : Int32} {S : xSt} {K : xSt → Prop}  (H : (vp_in ((x1 * (6 : Int32)) + x2) 36 ∧ (vp_in ((x2 * (6 : Int32)) + x1) 36 ∧ K (x_putI (x_putI (x_putI S 33 (((x1 * (6 : Int32)) + x2) : Int32).toNatClampNeg x3) 33 (((x2 * (6 : Int32)) + x1) : Int32).toNatClampNeg x3) 21 14 ((S.1 21 14) + (1 : Int32)))))) : M_Rg_befriend_21 h d x1 x2 x3 S K := by
  refine x_enter pn_X5 (Nat.le_of_ble_eq_true rfl) ?_
  show X (gC h) _ _ 0 [(0, .ref (x_ad (gC h) 21)), (1, .int x1), (2, .int x2), (3, .int x3)] [] S _
  refine x_aload_n (x_at tdX5_befriend 0 rfl) rfl rfl ?_
  refine gfC_21_15 (x_at tdX5_befriend 1 rfl) wf_X5_45 ?_
  refine x_iload_n (x_at tdX5_befriend 2 rfl) rfl rfl ?_
  refine x_bipush (x_at tdX5_befriend 3 rfl) k_b_6 ?_
  refine x_imul (x_at tdX5_befriend 4 rfl) ?_
  refine x_iload_n (x_at tdX5_befriend 5 rfl) rfl rfl ?_
  refine x_iadd (x_at tdX5_befriend 6 rfl) ?_
  refine x_iload_n (x_at tdX5_befriend 7 rfl) rfl rfl ?_
  refine x_iast (lC_33 h) (x_at tdX5_befriend 8 rfl) H.1 ?_
  have H := H.2
  refine x_aload_n (x_at tdX5_befriend 9 rfl) rfl rfl ?_
  refine gfC_21_15 (x_at tdX5_befriend 10 rfl) wf_X5_45 ?_
  refine x_iload_n (x_at tdX5_befriend 11 rfl) rfl rfl ?_
  refine x_bipush (x_at tdX5_befriend 12 rfl) k_b_6 ?_
  refine x_imul (x_at tdX5_befriend 13 rfl) ?_
  refine x_iload_n (x_at tdX5_befriend 14 rfl) rfl rfl ?_
  refine x_iadd (x_at tdX5_befriend 15 rfl) ?_
  refine x_iload_n (x_at tdX5_befriend 16 rfl) rfl rfl ?_
  refine x_iast (lC_33 h) (x_at tdX5_befriend 17 rfl) H.1 ?_
  have H := H.2
  refine x_aload_n (x_at tdX5_befriend 18 rfl) rfl rfl ?_
  refine x_dup (x_at tdX5_befriend 19 rfl) rfl ?_
  refine gfC_21_14 (x_at tdX5_befriend 20 rfl) wf_X5_68 ?_
  refine x_top (v := (S.1 21 14)) rfl ?_
  refine x_iconst (x_at tdX5_befriend 21 rfl) k_c_1 ?_
  refine x_iadd (x_at tdX5_befriend 22 rfl) ?_
  refine pfC_21_14 (x_at tdX5_befriend 23 rfl) wf_X5_68 ?_
  exact x_return rfl (x_at tdX5_befriend 24 rfl) ⟨rfl, H⟩
theorem e_Rd_readWorth {h : xH} {d : Nat} {x1 : Int32} {x2 : Int32} {S : xSt} {K : Int32 → xSt → Prop}  (H : M_Tk_isSign h (d + 9) 45 S (fun (r1 : Int32) (S1 : xSt) => ((r1 = 0 → B_Rd_readWorth_30 h d x1 x2 r1 (S1.1 19 3) S1 K) ∧ (¬ r1 = 0 → M_Tk_advance h d S1 (fun (S2 : xSt) => B_Rd_readWorth_30 h d x1 x2 r1 (S1.1 19 3) S2 K))))) : M_Rd_readWorth h d x1 x2 S K := by
  refine x_enter pn_X4 (Nat.le_of_ble_eq_true rfl) ?_
  show X (gC h) _ _ 0 [(0, .ref (x_ad (gC h) 18)), (1, .int x1), (2, .int x2)] [] S _
  refine x_aload_n (x_at tdX4_readWorth 0 rfl) rfl rfl ?_
  refine gfC_18_0 (x_at tdX4_readWorth 1 rfl) wf_X4_12 ?_
  refine x_bipush (x_at tdX4_readWorth 2 rfl) k_b_45 ?_
  refine x_cVi (as := [.int 45]) (rest := []) mi_X7_isSign vc_7 (lC_19 h) (x_at tdX4_readWorth 3 rfl) wm_X4_195 rfl (Nat.le_of_ble_eq_true rfl) rfl H (fun r1 S1 H => ?_)
  refine x_istore_n (x_at tdX4_readWorth 4 rfl) rfl (by decide) ?_
  refine x_aload_n (x_at tdX4_readWorth 5 rfl) rfl rfl ?_
  refine gfC_18_0 (x_at tdX4_readWorth 6 rfl) wf_X4_12 ?_
  refine gfC_19_3 (x_at tdX4_readWorth 7 rfl) wf_X4_198 ?_
  refine x_istore (x_at tdX4_readWorth 8 rfl) (by decide) ?_
  refine x_iload_n (x_at tdX4_readWorth 9 rfl) rfl rfl ?_
  refine x_if_eq 30 (x_at tdX4_readWorth 10 rfl) rfl (fun c => ?_) (fun c => ?_)
  · have H := H.1 c
    refine x_weak (lv' := [(0, .ref (x_ad (gC h) 18)), (1, .int x1), (2, .int x2), (3, .int r1), (4, .int (S1.1 19 3))]) ⟨rfl, rfl, rfl, rfl, rfl, trivial⟩ ?_
    exact H
  · have H := H.2 c
    refine x_aload_n (x_at tdX4_readWorth 11 rfl) rfl rfl ?_
    refine gfC_18_0 (x_at tdX4_readWorth 12 rfl) wf_X4_12 ?_
    refine x_cVv (as := []) (rest := []) mi_X7_advance vc_7 (lC_19 h) (x_at tdX4_readWorth 13 rfl) wm_X4_101 rfl (Nat.le_of_ble_eq_true rfl) rfl H (fun S2 H => ?_)
    refine x_weak (lv' := [(0, .ref (x_ad (gC h) 18)), (1, .int x1), (2, .int x2), (3, .int r1), (4, .int (S1.1 19 3))]) ⟨rfl, rfl, rfl, rfl, rfl, trivial⟩ ?_
    exact H
theorem b_Rd_readWorth_30 {h : xH} {d : Nat}  {x1 : Int32} {x2 : Int32} {x3 : Int32} {x4 : Int32} {S : xSt} {K : Int32 → xSt → Prop}  (H : (((S.1 19 4) = 4 → (((S.1 19 5) ≤ 9 → ((x3 = 0 → B_Rd_readWorth_101 h d (S.1 19 5) x2 x1 S K) ∧ (¬ x3 = 0 → B_Rd_readWorth_101 h d (-(S.1 19 5)) x2 x1 S K))) ∧ (¬ (S.1 19 5) ≤ 9 → M_Tk_refuseAt h (d + 9) 4 x4 S (fun (r1 : Int32) (S1 : xSt) => (zb r1 ∧ K r1 S1))))) ∧ (¬ (S.1 19 4) = 4 → M_Tk_refuse h (d + 8) 2 S (fun (r2 : Int32) (S2 : xSt) => (zb r2 ∧ K r2 S2))))) : B_Rd_readWorth_30 h d x1 x2 x3 x4 S K := by
  unfold B_Rd_readWorth_30
  refine x_aload_n (x_at tdX4_readWorth 14 rfl) rfl rfl ?_
  refine gfC_18_0 (x_at tdX4_readWorth 15 rfl) wf_X4_12 ?_
  refine gfC_19_4 (x_at tdX4_readWorth 16 rfl) wf_X4_59 ?_
  refine x_iconst (x_at tdX4_readWorth 17 rfl) k_c_4 ?_
  refine x_ic_eq 50 (x_at tdX4_readWorth 18 rfl) rfl (fun c => ?_) (fun c => ?_)
  · have H := H.1 c
    refine x_aload_n (x_at tdX4_readWorth 24 rfl) rfl rfl ?_
    refine gfC_18_0 (x_at tdX4_readWorth 25 rfl) wf_X4_12 ?_
    refine gfC_19_5 (x_at tdX4_readWorth 26 rfl) wf_X4_62 ?_
    refine x_bipush (x_at tdX4_readWorth 27 rfl) k_b_9 ?_
    refine x_ic_le 73 (x_at tdX4_readWorth 28 rfl) rfl (fun c => ?_) (fun c => ?_)
    · have H := H.1 c
      refine x_aload_n (x_at tdX4_readWorth 35 rfl) rfl rfl ?_
      refine gfC_18_1 (x_at tdX4_readWorth 36 rfl) wf_X4_21 ?_
      refine x_iload_n (x_at tdX4_readWorth 37 rfl) rfl rfl ?_
      refine x_iload_n (x_at tdX4_readWorth 38 rfl) rfl rfl ?_
      refine x_iload_n (x_at tdX4_readWorth 39 rfl) rfl rfl ?_
      refine x_if_eq 94 (x_at tdX4_readWorth 40 rfl) rfl (fun c => ?_) (fun c => ?_)
      · have H := H.1 c
        refine x_aload_n (x_at tdX4_readWorth 46 rfl) rfl rfl ?_
        refine gfC_18_0 (x_at tdX4_readWorth 47 rfl) wf_X4_12 ?_
        refine gfC_19_5 (x_at tdX4_readWorth 48 rfl) wf_X4_62 ?_
        refine x_weak (lv' := [(0, .ref (x_ad (gC h) 18))]) ⟨rfl, trivial⟩ ?_
        exact H
      · have H := H.2 c
        refine x_aload_n (x_at tdX4_readWorth 41 rfl) rfl rfl ?_
        refine gfC_18_0 (x_at tdX4_readWorth 42 rfl) wf_X4_12 ?_
        refine gfC_19_5 (x_at tdX4_readWorth 43 rfl) wf_X4_62 ?_
        refine x_ineg (x_at tdX4_readWorth 44 rfl) ?_
        refine x_goto 101 (x_at tdX4_readWorth 45 rfl) rfl ?_
        refine x_weak (lv' := [(0, .ref (x_ad (gC h) 18))]) ⟨rfl, trivial⟩ ?_
        exact H
    · have H := H.2 c
      refine x_aload_n (x_at tdX4_readWorth 29 rfl) rfl rfl ?_
      refine gfC_18_0 (x_at tdX4_readWorth 30 rfl) wf_X4_12 ?_
      refine x_iconst (x_at tdX4_readWorth 31 rfl) k_c_4 ?_
      refine x_iload (x_at tdX4_readWorth 32 rfl) rfl ?_
      refine x_cVi (as := [.int 4, .int x4]) (rest := []) mi_X7_refuseAt vc_7 (lC_19 h) (x_at tdX4_readWorth 33 rfl) wm_X4_201 rfl (Nat.le_of_ble_eq_true rfl) rfl H (fun r1 S1 H => ?_)
      exact x_ireturn (ty := .boolean) rfl H.1.1 (x_at tdX4_readWorth 34 rfl) ⟨_, rfl, H.2⟩
  · have H := H.2 c
    refine x_aload_n (x_at tdX4_readWorth 19 rfl) rfl rfl ?_
    refine gfC_18_0 (x_at tdX4_readWorth 20 rfl) wf_X4_12 ?_
    refine x_iconst (x_at tdX4_readWorth 21 rfl) k_c_2 ?_
    refine x_cVi (as := [.int 2]) (rest := []) mi_X7_refuse vc_7 (lC_19 h) (x_at tdX4_readWorth 22 rfl) wm_X4_93 rfl (Nat.le_of_ble_eq_true rfl) rfl H (fun r2 S2 H => ?_)
    exact x_ireturn (ty := .boolean) rfl H.1.1 (x_at tdX4_readWorth 23 rfl) ⟨_, rfl, H.2⟩
theorem b_Rd_readWorth_101 {h : xH} {d : Nat}  {s0 : Int32} {s1 : Int32} {s2 : Int32} {S : xSt} {K : Int32 → xSt → Prop}  (H : M_Rg_befriend_21 h (d + 9) s2 s1 s0 S (fun (S1 : xSt) => M_Tk_advance h d S1 (fun (S2 : xSt) => K 1 S2))) : B_Rd_readWorth_101 h d s0 s1 s2 S K := by
  unfold B_Rd_readWorth_101
  refine x_cVv (as := [.int s2, .int s1, .int s0]) (rest := []) mi_X5_befriend vc_5 (lC_21 h) (x_at tdX4_readWorth 49 rfl) wm_X4_204 rfl (Nat.le_of_ble_eq_true rfl) rfl H (fun S1 H => ?_)
  refine x_aload_n (x_at tdX4_readWorth 50 rfl) rfl rfl ?_
  refine gfC_18_0 (x_at tdX4_readWorth 51 rfl) wf_X4_12 ?_
  refine x_cVv (as := []) (rest := []) mi_X7_advance vc_7 (lC_19 h) (x_at tdX4_readWorth 52 rfl) wm_X4_101 rfl (Nat.le_of_ble_eq_true rfl) rfl H (fun S2 H => ?_)
  refine x_iconst (x_at tdX4_readWorth 53 rfl) k_c_1 ?_
  exact x_ireturn (ty := .boolean) rfl zb1.1 (x_at tdX4_readWorth 54 rfl) ⟨_, rfl, H⟩
theorem e_Rg_worthOf_21 {h : xH} {d : Nat} {x1 : Int32} {x2 : Int32} {S : xSt} {K : Int32 → xSt → Prop}  (H : (vp_in ((x1 * (6 : Int32)) + x2) 36 ∧ K (S.1 33 (((x1 * (6 : Int32)) + x2) : Int32).toNatClampNeg) S)) : M_Rg_worthOf_21 h d x1 x2 S K := by
  refine x_enter pn_X5 (Nat.le_of_ble_eq_true rfl) ?_
  show X (gC h) _ _ 0 [(0, .ref (x_ad (gC h) 21)), (1, .int x1), (2, .int x2)] [] S _
  refine x_aload_n (x_at tdX5_worthOf 0 rfl) rfl rfl ?_
  refine gfC_21_15 (x_at tdX5_worthOf 1 rfl) wf_X5_45 ?_
  refine x_iload_n (x_at tdX5_worthOf 2 rfl) rfl rfl ?_
  refine x_bipush (x_at tdX5_worthOf 3 rfl) k_b_6 ?_
  refine x_imul (x_at tdX5_worthOf 4 rfl) ?_
  refine x_iload_n (x_at tdX5_worthOf 5 rfl) rfl rfl ?_
  refine x_iadd (x_at tdX5_worthOf 6 rfl) ?_
  refine x_iald (lC_33 h) (x_at tdX5_worthOf 7 rfl) H.1 ?_
  have H := H.2
  exact x_ireturn (ty := .int) rfl rfl (x_at tdX5_worthOf 8 rfl) ⟨_, rfl, H⟩
theorem e_Rd_readFriend {h : xH} {d : Nat}  {S : xSt} {K : Int32 → xSt → Prop}  (H : M_Rd_opens h d (S.1 21 14) 15 S (fun (r1 : Int32) (S1 : xSt) => ((¬ r1 = 0 → M_Rd_oldName h (d + 8) 38 (S1.1 21 0) S1 (fun (r2 : Int32) (S2 : xSt) => ((¬ r2 = (-1) → M_Tk_advance h (d + 1) S2 (fun (S3 : xSt) => M_Rd_oldName h (d + 8) 38 (S3.1 21 0) S3 (fun (r4 : Int32) (S4 : xSt) => ((¬ r4 = (-1) → ((r2 = r4 → M_Tk_refuse h (d + 9) 3 S4 (fun (r5 : Int32) (S5 : xSt) => (zb r5 ∧ K r5 S5))) ∧ (¬ r2 = r4 → M_Rg_worthOf_21 h (d + 10) r2 r4 S4 (fun (r6 : Int32) (S6 : xSt) => ((r6 = (-100) → M_Tk_advance h (d + 1) S6 (fun (S7 : xSt) => M_Rd_readWorth h d r2 r4 S7 (fun (r8 : Int32) (S8 : xSt) => (zb r8 ∧ K r8 S8)))) ∧ (¬ r6 = (-100) → M_Tk_refuse h (d + 9) 3 S6 (fun (r9 : Int32) (S9 : xSt) => (zb r9 ∧ K r9 S9)))))))) ∧ (r4 = (-1) → K 0 S4))))) ∧ (r2 = (-1) → K 0 S2)))) ∧ (r1 = 0 → K 0 S1)))) : M_Rd_readFriend h d S K := by
  refine x_enter pn_X4 (Nat.le_of_ble_eq_true rfl) ?_
  show X (gC h) _ _ 0 [(0, .ref (x_ad (gC h) 18))] [] S _
  refine x_aload_n (x_at tdX4_readFriend 0 rfl) rfl rfl ?_
  refine x_aload_n (x_at tdX4_readFriend 1 rfl) rfl rfl ?_
  refine gfC_18_1 (x_at tdX4_readFriend 2 rfl) wf_X4_21 ?_
  refine gfC_21_14 (x_at tdX4_readFriend 3 rfl) wf_X4_186 ?_
  refine x_bipush (x_at tdX4_readFriend 4 rfl) k_b_15 ?_
  refine x_cVi (as := [.int (S.1 21 14), .int 15]) (rest := []) mi_X4_opens vc_4 (lC_18 h) (x_at tdX4_readFriend 5 rfl) wm_X4_107 rfl (Nat.le_of_ble_eq_true rfl) rfl H (fun r1 S1 H => ?_)
  refine x_if_ne 18 (x_at tdX4_readFriend 6 rfl) rfl (fun c => ?_) (fun c => ?_)
  · have H := H.1 c
    refine x_aload_n (x_at tdX4_readFriend 9 rfl) rfl rfl ?_
    refine x_aload_n (x_at tdX4_readFriend 10 rfl) rfl rfl ?_
    refine gfC_18_3 (x_at tdX4_readFriend 11 rfl) wf_X4_38 ?_
    refine x_aload_n (x_at tdX4_readFriend 12 rfl) rfl rfl ?_
    refine gfC_18_1 (x_at tdX4_readFriend 13 rfl) wf_X4_21 ?_
    refine gfC_21_0 (x_at tdX4_readFriend 14 rfl) wf_X4_104 ?_
    refine x_cVi (as := [.ref (x_ad (gC h) 38), .int (S1.1 21 0)]) (rest := []) mi_X4_oldName vc_4 (lC_18 h) (x_at tdX4_readFriend 15 rfl) wm_X4_167 rfl (Nat.le_of_ble_eq_true rfl) rfl H (fun r2 S2 H => ?_)
    refine x_istore_n (x_at tdX4_readFriend 16 rfl) rfl (by decide) ?_
    refine x_iload_n (x_at tdX4_readFriend 17 rfl) rfl rfl ?_
    refine x_iconst (x_at tdX4_readFriend 18 rfl) k_c_m1 ?_
    refine x_ic_ne 41 (x_at tdX4_readFriend 19 rfl) rfl (fun c => ?_) (fun c => ?_)
    · have H := H.1 c
      refine x_aload_n (x_at tdX4_readFriend 22 rfl) rfl rfl ?_
      refine gfC_18_0 (x_at tdX4_readFriend 23 rfl) wf_X4_12 ?_
      refine x_cVv (as := []) (rest := []) mi_X7_advance vc_7 (lC_19 h) (x_at tdX4_readFriend 24 rfl) wm_X4_101 rfl (Nat.le_of_ble_eq_true rfl) rfl H (fun S3 H => ?_)
      refine x_aload_n (x_at tdX4_readFriend 25 rfl) rfl rfl ?_
      refine x_aload_n (x_at tdX4_readFriend 26 rfl) rfl rfl ?_
      refine gfC_18_3 (x_at tdX4_readFriend 27 rfl) wf_X4_38 ?_
      refine x_aload_n (x_at tdX4_readFriend 28 rfl) rfl rfl ?_
      refine gfC_18_1 (x_at tdX4_readFriend 29 rfl) wf_X4_21 ?_
      refine gfC_21_0 (x_at tdX4_readFriend 30 rfl) wf_X4_104 ?_
      refine x_cVi (as := [.ref (x_ad (gC h) 38), .int (S3.1 21 0)]) (rest := []) mi_X4_oldName vc_4 (lC_18 h) (x_at tdX4_readFriend 31 rfl) wm_X4_167 rfl (Nat.le_of_ble_eq_true rfl) rfl H (fun r4 S4 H => ?_)
      refine x_istore_n (x_at tdX4_readFriend 32 rfl) rfl (by decide) ?_
      refine x_iload_n (x_at tdX4_readFriend 33 rfl) rfl rfl ?_
      refine x_iconst (x_at tdX4_readFriend 34 rfl) k_c_m1 ?_
      refine x_ic_ne 71 (x_at tdX4_readFriend 35 rfl) rfl (fun c => ?_) (fun c => ?_)
      · have H := H.1 c
        refine x_iload_n (x_at tdX4_readFriend 38 rfl) rfl rfl ?_
        refine x_iload_n (x_at tdX4_readFriend 39 rfl) rfl rfl ?_
        refine x_ic_eq 90 (x_at tdX4_readFriend 40 rfl) rfl (fun c => ?_) (fun c => ?_)
        · have H := H.1 c
          refine x_aload_n (x_at tdX4_readFriend 48 rfl) rfl rfl ?_
          refine gfC_18_0 (x_at tdX4_readFriend 49 rfl) wf_X4_12 ?_
          refine x_iconst (x_at tdX4_readFriend 50 rfl) k_c_3 ?_
          refine x_cVi (as := [.int 3]) (rest := []) mi_X7_refuse vc_7 (lC_19 h) (x_at tdX4_readFriend 51 rfl) wm_X4_93 rfl (Nat.le_of_ble_eq_true rfl) rfl H (fun r5 S5 H => ?_)
          exact x_ireturn (ty := .boolean) rfl H.1.1 (x_at tdX4_readFriend 52 rfl) ⟨_, rfl, H.2⟩
        · have H := H.2 c
          refine x_aload_n (x_at tdX4_readFriend 41 rfl) rfl rfl ?_
          refine gfC_18_1 (x_at tdX4_readFriend 42 rfl) wf_X4_21 ?_
          refine x_iload_n (x_at tdX4_readFriend 43 rfl) rfl rfl ?_
          refine x_iload_n (x_at tdX4_readFriend 44 rfl) rfl rfl ?_
          refine x_cVi (as := [.int r2, .int r4]) (rest := []) mi_X5_worthOf vc_5 (lC_21 h) (x_at tdX4_readFriend 45 rfl) wm_X4_189 rfl (Nat.le_of_ble_eq_true rfl) rfl H (fun r6 S6 H => ?_)
          refine x_bipush (x_at tdX4_readFriend 46 rfl) k_b_m100 ?_
          refine x_ic_eq 99 (x_at tdX4_readFriend 47 rfl) rfl (fun c => ?_) (fun c => ?_)
          · have H := H.1 c
            refine x_aload_n (x_at tdX4_readFriend 53 rfl) rfl rfl ?_
            refine gfC_18_0 (x_at tdX4_readFriend 54 rfl) wf_X4_12 ?_
            refine x_cVv (as := []) (rest := []) mi_X7_advance vc_7 (lC_19 h) (x_at tdX4_readFriend 55 rfl) wm_X4_101 rfl (Nat.le_of_ble_eq_true rfl) rfl H (fun S7 H => ?_)
            refine x_aload_n (x_at tdX4_readFriend 56 rfl) rfl rfl ?_
            refine x_iload_n (x_at tdX4_readFriend 57 rfl) rfl rfl ?_
            refine x_iload_n (x_at tdX4_readFriend 58 rfl) rfl rfl ?_
            refine x_cVi (as := [.int r2, .int r4]) (rest := []) mi_X4_readWorth vc_4 (lC_18 h) (x_at tdX4_readFriend 59 rfl) wm_X4_192 rfl (Nat.le_of_ble_eq_true rfl) rfl H (fun r8 S8 H => ?_)
            exact x_ireturn (ty := .boolean) rfl H.1.1 (x_at tdX4_readFriend 60 rfl) ⟨_, rfl, H.2⟩
          · have H := H.2 c
            refine x_aload_n (x_at tdX4_readFriend 48 rfl) rfl rfl ?_
            refine gfC_18_0 (x_at tdX4_readFriend 49 rfl) wf_X4_12 ?_
            refine x_iconst (x_at tdX4_readFriend 50 rfl) k_c_3 ?_
            refine x_cVi (as := [.int 3]) (rest := []) mi_X7_refuse vc_7 (lC_19 h) (x_at tdX4_readFriend 51 rfl) wm_X4_93 rfl (Nat.le_of_ble_eq_true rfl) rfl H (fun r9 S9 H => ?_)
            exact x_ireturn (ty := .boolean) rfl H.1.1 (x_at tdX4_readFriend 52 rfl) ⟨_, rfl, H.2⟩
      · have H := H.2 c
        refine x_iconst (x_at tdX4_readFriend 36 rfl) k_c_0 ?_
        exact x_ireturn (ty := .boolean) rfl zb0.1 (x_at tdX4_readFriend 37 rfl) ⟨_, rfl, H⟩
    · have H := H.2 c
      refine x_iconst (x_at tdX4_readFriend 20 rfl) k_c_0 ?_
      exact x_ireturn (ty := .boolean) rfl zb0.1 (x_at tdX4_readFriend 21 rfl) ⟨_, rfl, H⟩
  · have H := H.2 c
    refine x_iconst (x_at tdX4_readFriend 7 rfl) k_c_0 ?_
    exact x_ireturn (ty := .boolean) rfl zb0.1 (x_at tdX4_readFriend 8 rfl) ⟨_, rfl, H⟩
theorem e_Rd_readHoursOfDay {h : xH} {d : Nat}  {S : xSt} {K : Int32 → xSt → Prop}  (H : M_Rd_opensOnce h d S (fun (r1 : Int32) (S1 : xSt) => ((¬ r1 = 0 → M_Rd_number h d 1 24 S1 (fun (r2 : Int32) (S2 : xSt) => ((r2 = (-1) → K 0 (x_putI S2 21 17 r2)) ∧ (¬ r2 = (-1) → K 1 (x_putI S2 21 17 r2))))) ∧ (r1 = 0 → K 0 S1)))) : M_Rd_readHoursOfDay h d S K := by
  refine x_enter pn_X4 (Nat.le_of_ble_eq_true rfl) ?_
  show X (gC h) _ _ 0 [(0, .ref (x_ad (gC h) 18))] [] S _
  refine x_aload_n (x_at tdX4_readHoursOfDay 0 rfl) rfl rfl ?_
  refine x_cVi (as := []) (rest := []) mi_X4_opensOnce vc_4 (lC_18 h) (x_at tdX4_readHoursOfDay 1 rfl) wm_X4_78 rfl (Nat.le_of_ble_eq_true rfl) rfl H (fun r1 S1 H => ?_)
  refine x_if_ne 9 (x_at tdX4_readHoursOfDay 2 rfl) rfl (fun c => ?_) (fun c => ?_)
  · have H := H.1 c
    refine x_aload_n (x_at tdX4_readHoursOfDay 5 rfl) rfl rfl ?_
    refine gfC_18_1 (x_at tdX4_readHoursOfDay 6 rfl) wf_X4_21 ?_
    refine x_aload_n (x_at tdX4_readHoursOfDay 7 rfl) rfl rfl ?_
    refine x_iconst (x_at tdX4_readHoursOfDay 8 rfl) k_c_1 ?_
    refine x_bipush (x_at tdX4_readHoursOfDay 9 rfl) k_b_24 ?_
    refine x_cVi (as := [.int 1, .int 24]) (rest := [.ref (x_ad (gC h) 21)]) mi_X4_number vc_4 (lC_18 h) (x_at tdX4_readHoursOfDay 10 rfl) wm_X4_145 rfl (Nat.le_of_ble_eq_true rfl) rfl H (fun r2 S2 H => ?_)
    refine pfC_21_17 (x_at tdX4_readHoursOfDay 11 rfl) wf_X4_208 ?_
    refine x_aload_n (x_at tdX4_readHoursOfDay 12 rfl) rfl rfl ?_
    refine gfC_18_1 (x_at tdX4_readHoursOfDay 13 rfl) wf_X4_21 ?_
    refine gfC_21_17 (x_at tdX4_readHoursOfDay 14 rfl) wf_X4_208 ?_
    refine x_top (v := r2) rfl ?_
    refine x_iconst (x_at tdX4_readHoursOfDay 15 rfl) k_c_m1 ?_
    refine x_ic_eq 38 (x_at tdX4_readHoursOfDay 16 rfl) rfl (fun c => ?_) (fun c => ?_)
    · have H := H.1 c
      refine x_iconst (x_at tdX4_readHoursOfDay 19 rfl) k_c_0 ?_
      exact x_ireturn (ty := .boolean) rfl zb0.1 (x_at tdX4_readHoursOfDay 20 rfl) ⟨_, rfl, H⟩
    · have H := H.2 c
      refine x_iconst (x_at tdX4_readHoursOfDay 17 rfl) k_c_1 ?_
      refine x_goto 39 (x_at tdX4_readHoursOfDay 18 rfl) rfl ?_
      exact x_ireturn (ty := .boolean) rfl zb1.1 (x_at tdX4_readHoursOfDay 20 rfl) ⟨_, rfl, H⟩
  · have H := H.2 c
    refine x_iconst (x_at tdX4_readHoursOfDay 3 rfl) k_c_0 ?_
    exact x_ireturn (ty := .boolean) rfl zb0.1 (x_at tdX4_readHoursOfDay 4 rfl) ⟨_, rfl, H⟩
theorem e_Rd_readMan {h : xH} {d : Nat}  {S : xSt} {K : Int32 → xSt → Prop}  (H : M_Rd_opens h (d + 1) (S.1 21 0) 6 S (fun (r1 : Int32) (S1 : xSt) => ((r1 = 0 → K 0 S1) ∧ (¬ r1 = 0 → M_Rd_isNewName h (d + 9) 38 (S.1 21 0) S1 (fun (r2 : Int32) (S2 : xSt) => ((¬ r2 = 0 → (vp_in (S.1 21 0) 6 ∧ M_Tk_advance h (d + 2) (x_putL S2 38 ((S.1 21 0) : Int32).toNatClampNeg (S2.2.1 19 6)) (fun (S3 : xSt) => M_Rd_optional h d 1 0 9 0 S3 (fun (r4 : Int32) (S4 : xSt) => (vp_in (S.1 21 0) 6 ∧ (vp_in (S.1 21 0) 6 ∧ ((¬ r4 = (-1) → M_Rd_optional h d 2 1 4 2 (x_putI S4 22 ((S.1 21 0) : Int32).toNatClampNeg r4) (fun (r5 : Int32) (S5 : xSt) => (vp_in (S.1 21 0) 6 ∧ (vp_in (S.1 21 0) 6 ∧ ((¬ r5 = (-1) → (vp_in (S.1 21 0) 6 ∧ M_Tk_isWord h (d + 11) 3 (x_putI (x_putI S5 23 ((S.1 21 0) : Int32).toNatClampNeg r5) 24 ((S.1 21 0) : Int32).toNatClampNeg 0) (fun (r6 : Int32) (S6 : xSt) => ((r6 = 0 → B_Rd_readMan_155 h d S6 K) ∧ (¬ r6 = 0 → (vp_in (S.1 21 0) 6 ∧ M_Tk_advance h (d + 2) (x_putI S6 24 ((S.1 21 0) : Int32).toNatClampNeg 1) (fun (S7 : xSt) => B_Rd_readMan_155 h d S7 K))))))) ∧ (r5 = (-1) → K 0 (x_putI S5 23 ((S.1 21 0) : Int32).toNatClampNeg r5))))))) ∧ (r4 = (-1) → K 0 (x_putI S4 22 ((S.1 21 0) : Int32).toNatClampNeg r4))))))))) ∧ (r2 = 0 → K 0 S2))))))) : M_Rd_readMan h d S K := by
  refine x_enter pn_X4 (Nat.le_of_ble_eq_true rfl) ?_
  show X (gC h) _ _ 0 [(0, .ref (x_ad (gC h) 18))] [] S _
  refine x_aload_n (x_at tdX4_readMan 0 rfl) rfl rfl ?_
  refine gfC_18_1 (x_at tdX4_readMan 1 rfl) wf_X4_21 ?_
  refine gfC_21_0 (x_at tdX4_readMan 2 rfl) wf_X4_104 ?_
  refine x_istore_n (x_at tdX4_readMan 3 rfl) rfl (by decide) ?_
  refine x_aload_n (x_at tdX4_readMan 4 rfl) rfl rfl ?_
  refine x_iload_n (x_at tdX4_readMan 5 rfl) rfl rfl ?_
  refine x_bipush (x_at tdX4_readMan 6 rfl) k_b_6 ?_
  refine x_cVi (as := [.int (S.1 21 0), .int 6]) (rest := []) mi_X4_opens vc_4 (lC_18 h) (x_at tdX4_readMan 7 rfl) wm_X4_107 rfl (Nat.le_of_ble_eq_true rfl) rfl H (fun r1 S1 H => ?_)
  refine x_if_eq 30 (x_at tdX4_readMan 8 rfl) rfl (fun c => ?_) (fun c => ?_)
  · have H := H.1 c
    refine x_iconst (x_at tdX4_readMan 15 rfl) k_c_0 ?_
    exact x_ireturn (ty := .boolean) rfl zb0.1 (x_at tdX4_readMan 16 rfl) ⟨_, rfl, H⟩
  · have H := H.2 c
    refine x_aload_n (x_at tdX4_readMan 9 rfl) rfl rfl ?_
    refine x_aload_n (x_at tdX4_readMan 10 rfl) rfl rfl ?_
    refine gfC_18_3 (x_at tdX4_readMan 11 rfl) wf_X4_38 ?_
    refine x_iload_n (x_at tdX4_readMan 12 rfl) rfl rfl ?_
    refine x_cVi (as := [.ref (x_ad (gC h) 38), .int (S.1 21 0)]) (rest := []) mi_X4_isNewName vc_4 (lC_18 h) (x_at tdX4_readMan 13 rfl) wm_X4_111 rfl (Nat.le_of_ble_eq_true rfl) rfl H (fun r2 S2 H => ?_)
    refine x_if_ne 32 (x_at tdX4_readMan 14 rfl) rfl (fun c => ?_) (fun c => ?_)
    · have H := H.1 c
      refine x_aload_n (x_at tdX4_readMan 17 rfl) rfl rfl ?_
      refine gfC_18_3 (x_at tdX4_readMan 18 rfl) wf_X4_38 ?_
      refine x_iload_n (x_at tdX4_readMan 19 rfl) rfl rfl ?_
      refine x_aload_n (x_at tdX4_readMan 20 rfl) rfl rfl ?_
      refine gfC_18_0 (x_at tdX4_readMan 21 rfl) wf_X4_12 ?_
      refine gfC_19_6 (x_at tdX4_readMan 22 rfl) wf_X4_115 ?_
      refine x_last (lC_38 h) (x_at tdX4_readMan 23 rfl) H.1 ?_
      have H := H.2
      refine x_aload_n (x_at tdX4_readMan 24 rfl) rfl rfl ?_
      refine gfC_18_0 (x_at tdX4_readMan 25 rfl) wf_X4_12 ?_
      refine x_cVv (as := []) (rest := []) mi_X7_advance vc_7 (lC_19 h) (x_at tdX4_readMan 26 rfl) wm_X4_101 rfl (Nat.le_of_ble_eq_true rfl) rfl H (fun S3 H => ?_)
      refine x_aload_n (x_at tdX4_readMan 27 rfl) rfl rfl ?_
      refine gfC_18_1 (x_at tdX4_readMan 28 rfl) wf_X4_21 ?_
      refine gfC_21_1 (x_at tdX4_readMan 29 rfl) wf_X4_119 ?_
      refine x_iload_n (x_at tdX4_readMan 30 rfl) rfl rfl ?_
      refine x_aload_n (x_at tdX4_readMan 31 rfl) rfl rfl ?_
      refine x_iconst (x_at tdX4_readMan 32 rfl) k_c_1 ?_
      refine x_iconst (x_at tdX4_readMan 33 rfl) k_c_0 ?_
      refine x_bipush (x_at tdX4_readMan 34 rfl) k_b_9 ?_
      refine x_iconst (x_at tdX4_readMan 35 rfl) k_c_0 ?_
      refine x_cVi (as := [.int 1, .int 0, .int 9, .int 0]) (rest := [.int (S.1 21 0), .ref (x_ad (gC h) 22)]) mi_X4_optional vc_4 (lC_18 h) (x_at tdX4_readMan 36 rfl) wm_X4_123 rfl (Nat.le_of_ble_eq_true rfl) rfl H (fun r4 S4 H => ?_)
      refine x_iast (lC_22 h) (x_at tdX4_readMan 37 rfl) H.1 ?_
      have H := H.2
      refine x_aload_n (x_at tdX4_readMan 38 rfl) rfl rfl ?_
      refine gfC_18_1 (x_at tdX4_readMan 39 rfl) wf_X4_21 ?_
      refine gfC_21_1 (x_at tdX4_readMan 40 rfl) wf_X4_119 ?_
      refine x_iload_n (x_at tdX4_readMan 41 rfl) rfl rfl ?_
      refine x_iald (lC_22 h) (x_at tdX4_readMan 42 rfl) H.1 ?_
      have H := H.2
      refine x_top (v := r4) (by simp [x_putI, upd]) ?_
      refine x_iconst (x_at tdX4_readMan 43 rfl) k_c_m1 ?_
      refine x_ic_ne 85 (x_at tdX4_readMan 44 rfl) rfl (fun c => ?_) (fun c => ?_)
      · have H := H.1 c
        refine x_aload_n (x_at tdX4_readMan 47 rfl) rfl rfl ?_
        refine gfC_18_1 (x_at tdX4_readMan 48 rfl) wf_X4_21 ?_
        refine gfC_21_2 (x_at tdX4_readMan 49 rfl) wf_X4_127 ?_
        refine x_iload_n (x_at tdX4_readMan 50 rfl) rfl rfl ?_
        refine x_aload_n (x_at tdX4_readMan 51 rfl) rfl rfl ?_
        refine x_iconst (x_at tdX4_readMan 52 rfl) k_c_2 ?_
        refine x_iconst (x_at tdX4_readMan 53 rfl) k_c_1 ?_
        refine x_iconst (x_at tdX4_readMan 54 rfl) k_c_4 ?_
        refine x_iconst (x_at tdX4_readMan 55 rfl) k_c_2 ?_
        refine x_cVi (as := [.int 2, .int 1, .int 4, .int 2]) (rest := [.int (S.1 21 0), .ref (x_ad (gC h) 23)]) mi_X4_optional vc_4 (lC_18 h) (x_at tdX4_readMan 56 rfl) wm_X4_123 rfl (Nat.le_of_ble_eq_true rfl) rfl H (fun r5 S5 H => ?_)
        refine x_iast (lC_23 h) (x_at tdX4_readMan 57 rfl) H.1 ?_
        have H := H.2
        refine x_aload_n (x_at tdX4_readMan 58 rfl) rfl rfl ?_
        refine gfC_18_1 (x_at tdX4_readMan 59 rfl) wf_X4_21 ?_
        refine gfC_21_2 (x_at tdX4_readMan 60 rfl) wf_X4_127 ?_
        refine x_iload_n (x_at tdX4_readMan 61 rfl) rfl rfl ?_
        refine x_iald (lC_23 h) (x_at tdX4_readMan 62 rfl) H.1 ?_
        have H := H.2
        refine x_top (v := r5) (by simp [x_putI, upd]) ?_
        refine x_iconst (x_at tdX4_readMan 63 rfl) k_c_m1 ?_
        refine x_ic_ne 117 (x_at tdX4_readMan 64 rfl) rfl (fun c => ?_) (fun c => ?_)
        · have H := H.1 c
          refine x_aload_n (x_at tdX4_readMan 67 rfl) rfl rfl ?_
          refine gfC_18_1 (x_at tdX4_readMan 68 rfl) wf_X4_21 ?_
          refine gfC_21_3 (x_at tdX4_readMan 69 rfl) wf_X4_130 ?_
          refine x_iload_n (x_at tdX4_readMan 70 rfl) rfl rfl ?_
          refine x_iconst (x_at tdX4_readMan 71 rfl) k_c_0 ?_
          refine x_iast (lC_24 h) (x_at tdX4_readMan 72 rfl) H.1 ?_
          have H := H.2
          refine x_aload_n (x_at tdX4_readMan 73 rfl) rfl rfl ?_
          refine gfC_18_0 (x_at tdX4_readMan 74 rfl) wf_X4_12 ?_
          refine x_iconst (x_at tdX4_readMan 75 rfl) k_c_3 ?_
          refine x_cVi (as := [.int 3]) (rest := []) mi_X7_isWord vc_7 (lC_19 h) (x_at tdX4_readMan 76 rfl) wm_X4_133 rfl (Nat.le_of_ble_eq_true rfl) rfl H (fun r6 S6 H => ?_)
          refine x_if_eq 155 (x_at tdX4_readMan 77 rfl) rfl (fun c => ?_) (fun c => ?_)
          · have H := H.1 c
            refine x_weak (lv' := [(0, .ref (x_ad (gC h) 18))]) ⟨rfl, trivial⟩ ?_
            exact H
          · have H := H.2 c
            refine x_aload_n (x_at tdX4_readMan 78 rfl) rfl rfl ?_
            refine gfC_18_1 (x_at tdX4_readMan 79 rfl) wf_X4_21 ?_
            refine gfC_21_3 (x_at tdX4_readMan 80 rfl) wf_X4_130 ?_
            refine x_iload_n (x_at tdX4_readMan 81 rfl) rfl rfl ?_
            refine x_iconst (x_at tdX4_readMan 82 rfl) k_c_1 ?_
            refine x_iast (lC_24 h) (x_at tdX4_readMan 83 rfl) H.1 ?_
            have H := H.2
            refine x_aload_n (x_at tdX4_readMan 84 rfl) rfl rfl ?_
            refine gfC_18_0 (x_at tdX4_readMan 85 rfl) wf_X4_12 ?_
            refine x_cVv (as := []) (rest := []) mi_X7_advance vc_7 (lC_19 h) (x_at tdX4_readMan 86 rfl) wm_X4_101 rfl (Nat.le_of_ble_eq_true rfl) rfl H (fun S7 H => ?_)
            refine x_weak (lv' := [(0, .ref (x_ad (gC h) 18))]) ⟨rfl, trivial⟩ ?_
            exact H
        · have H := H.2 c
          refine x_iconst (x_at tdX4_readMan 65 rfl) k_c_0 ?_
          exact x_ireturn (ty := .boolean) rfl zb0.1 (x_at tdX4_readMan 66 rfl) ⟨_, rfl, H⟩
      · have H := H.2 c
        refine x_iconst (x_at tdX4_readMan 45 rfl) k_c_0 ?_
        exact x_ireturn (ty := .boolean) rfl zb0.1 (x_at tdX4_readMan 46 rfl) ⟨_, rfl, H⟩
    · have H := H.2 c
      refine x_iconst (x_at tdX4_readMan 15 rfl) k_c_0 ?_
      exact x_ireturn (ty := .boolean) rfl zb0.1 (x_at tdX4_readMan 16 rfl) ⟨_, rfl, H⟩
theorem b_Rd_readMan_155 {h : xH} {d : Nat}   {S : xSt} {K : Int32 → xSt → Prop}  (H : K 1 (x_putI S 21 0 ((S.1 21 0) + (1 : Int32)))) : B_Rd_readMan_155 h d S K := by
  unfold B_Rd_readMan_155
  refine x_aload_n (x_at tdX4_readMan 87 rfl) rfl rfl ?_
  refine gfC_18_1 (x_at tdX4_readMan 88 rfl) wf_X4_21 ?_
  refine x_dup (x_at tdX4_readMan 89 rfl) rfl ?_
  refine gfC_21_0 (x_at tdX4_readMan 90 rfl) wf_X4_104 ?_
  refine x_iconst (x_at tdX4_readMan 91 rfl) k_c_1 ?_
  refine x_iadd (x_at tdX4_readMan 92 rfl) ?_
  refine pfC_21_0 (x_at tdX4_readMan 93 rfl) wf_X4_104 ?_
  refine x_iconst (x_at tdX4_readMan 94 rfl) k_c_1 ?_
  exact x_ireturn (ty := .boolean) rfl zb1.1 (x_at tdX4_readMan 95 rfl) ⟨_, rfl, H⟩
theorem e_Rd_readStorm {h : xH} {d : Nat}  {S : xSt} {K : Int32 → xSt → Prop}  (H : M_Rd_opensOnce h d S (fun (r1 : Int32) (S1 : xSt) => ((¬ r1 = 0 → M_Rd_number h d 0 100 S1 (fun (r2 : Int32) (S2 : xSt) => ((r2 = (-1) → K 0 (x_putI S2 21 18 r2)) ∧ (¬ r2 = (-1) → K 1 (x_putI S2 21 18 r2))))) ∧ (r1 = 0 → K 0 S1)))) : M_Rd_readStorm h d S K := by
  refine x_enter pn_X4 (Nat.le_of_ble_eq_true rfl) ?_
  show X (gC h) _ _ 0 [(0, .ref (x_ad (gC h) 18))] [] S _
  refine x_aload_n (x_at tdX4_readStorm 0 rfl) rfl rfl ?_
  refine x_cVi (as := []) (rest := []) mi_X4_opensOnce vc_4 (lC_18 h) (x_at tdX4_readStorm 1 rfl) wm_X4_78 rfl (Nat.le_of_ble_eq_true rfl) rfl H (fun r1 S1 H => ?_)
  refine x_if_ne 9 (x_at tdX4_readStorm 2 rfl) rfl (fun c => ?_) (fun c => ?_)
  · have H := H.1 c
    refine x_aload_n (x_at tdX4_readStorm 5 rfl) rfl rfl ?_
    refine gfC_18_1 (x_at tdX4_readStorm 6 rfl) wf_X4_21 ?_
    refine x_aload_n (x_at tdX4_readStorm 7 rfl) rfl rfl ?_
    refine x_iconst (x_at tdX4_readStorm 8 rfl) k_c_0 ?_
    refine x_bipush (x_at tdX4_readStorm 9 rfl) k_b_100 ?_
    refine x_cVi (as := [.int 0, .int 100]) (rest := [.ref (x_ad (gC h) 21)]) mi_X4_number vc_4 (lC_18 h) (x_at tdX4_readStorm 10 rfl) wm_X4_145 rfl (Nat.le_of_ble_eq_true rfl) rfl H (fun r2 S2 H => ?_)
    refine pfC_21_18 (x_at tdX4_readStorm 11 rfl) wf_X4_211 ?_
    refine x_aload_n (x_at tdX4_readStorm 12 rfl) rfl rfl ?_
    refine gfC_18_1 (x_at tdX4_readStorm 13 rfl) wf_X4_21 ?_
    refine gfC_21_18 (x_at tdX4_readStorm 14 rfl) wf_X4_211 ?_
    refine x_top (v := r2) rfl ?_
    refine x_iconst (x_at tdX4_readStorm 15 rfl) k_c_m1 ?_
    refine x_ic_eq 38 (x_at tdX4_readStorm 16 rfl) rfl (fun c => ?_) (fun c => ?_)
    · have H := H.1 c
      refine x_iconst (x_at tdX4_readStorm 19 rfl) k_c_0 ?_
      exact x_ireturn (ty := .boolean) rfl zb0.1 (x_at tdX4_readStorm 20 rfl) ⟨_, rfl, H⟩
    · have H := H.2 c
      refine x_iconst (x_at tdX4_readStorm 17 rfl) k_c_1 ?_
      refine x_goto 39 (x_at tdX4_readStorm 18 rfl) rfl ?_
      exact x_ireturn (ty := .boolean) rfl zb1.1 (x_at tdX4_readStorm 20 rfl) ⟨_, rfl, H⟩
  · have H := H.2 c
    refine x_iconst (x_at tdX4_readStorm 3 rfl) k_c_0 ?_
    exact x_ireturn (ty := .boolean) rfl zb0.1 (x_at tdX4_readStorm 4 rfl) ⟨_, rfl, H⟩
theorem e_Wr_empty_34 {h : xH} {d : Nat}  {S : xSt} {K : xSt → Prop}  (H : K (x_putI (x_putI S 34 1 0) 34 3 0)) : M_Wr_empty_34 h d S K := by
  refine x_enter pn_X10 (Nat.le_of_ble_eq_true rfl) ?_
  show X (gC h) _ _ 0 [(0, .ref (x_ad (gC h) 34))] [] S _
  refine x_aload_n (x_at tdX10_empty 0 rfl) rfl rfl ?_
  refine x_iconst (x_at tdX10_empty 1 rfl) k_c_0 ?_
  refine pfC_34_1 (x_at tdX10_empty 2 rfl) wf_X10_18 ?_
  refine x_aload_n (x_at tdX10_empty 3 rfl) rfl rfl ?_
  refine x_iconst (x_at tdX10_empty 4 rfl) k_c_0 ?_
  refine pfC_34_3 (x_at tdX10_empty 5 rfl) wf_X10_22 ?_
  exact x_return rfl (x_at tdX10_empty 6 rfl) ⟨rfl, H⟩
theorem e_Rg_empty_21 {h : xH} {d : Nat}  {S : xSt} {K : xSt → Prop}  (H : B_Rg_empty_21_22 h d 0 (x_putI (x_putI (x_putI (x_putI S 21 0 0) 21 4 0) 21 6 0) 21 14 0) K) : M_Rg_empty_21 h d S K := by
  refine x_enter pn_X5 (Nat.le_of_ble_eq_true rfl) ?_
  show X (gC h) _ _ 0 [(0, .ref (x_ad (gC h) 21))] [] S _
  refine x_aload_n (x_at tdX5_empty 0 rfl) rfl rfl ?_
  refine x_iconst (x_at tdX5_empty 1 rfl) k_c_0 ?_
  refine pfC_21_0 (x_at tdX5_empty 2 rfl) wf_X5_58 ?_
  refine x_aload_n (x_at tdX5_empty 3 rfl) rfl rfl ?_
  refine x_iconst (x_at tdX5_empty 4 rfl) k_c_0 ?_
  refine pfC_21_4 (x_at tdX5_empty 5 rfl) wf_X5_62 ?_
  refine x_aload_n (x_at tdX5_empty 6 rfl) rfl rfl ?_
  refine x_iconst (x_at tdX5_empty 7 rfl) k_c_0 ?_
  refine pfC_21_6 (x_at tdX5_empty 8 rfl) wf_X5_65 ?_
  refine x_aload_n (x_at tdX5_empty 9 rfl) rfl rfl ?_
  refine x_iconst (x_at tdX5_empty 10 rfl) k_c_0 ?_
  refine pfC_21_14 (x_at tdX5_empty 11 rfl) wf_X5_68 ?_
  refine x_iconst (x_at tdX5_empty 12 rfl) k_c_0 ?_
  refine x_istore_n (x_at tdX5_empty 13 rfl) rfl (by decide) ?_
  refine x_weak (lv' := [(0, .ref (x_ad (gC h) 21)), (1, .int 0)]) ⟨rfl, rfl, trivial⟩ ?_
  exact H
theorem b_Rg_empty_21_22 {h : xH} {d : Nat}  {x1 : Int32} {S : xSt} {K : xSt → Prop}  (H : ((36 ≤ x1 → M_Wr_empty_34 h d S (fun (S1 : xSt) => K (x_putI (x_putI (x_putI S1 21 17 8) 21 18 0) 21 19 0))) ∧ (¬ 36 ≤ x1 → (vp_in x1 36 ∧ B_Rg_empty_21_22 h d (x1 + 1) (x_putI S 33 (x1 : Int32).toNatClampNeg (-100)) K)))) : B_Rg_empty_21_22 h d x1 S K := by
  unfold B_Rg_empty_21_22
  refine x_iload_n (x_at tdX5_empty 14 rfl) rfl rfl ?_
  refine x_aload_n (x_at tdX5_empty 15 rfl) rfl rfl ?_
  refine gfC_21_15 (x_at tdX5_empty 16 rfl) wf_X5_45 ?_
  refine x_alen (by decide) (lC_33 h) (x_at tdX5_empty 17 rfl) ?_
  refine x_top (v := 36) (by decide) ?_
  refine x_ic_ge 45 (x_at tdX5_empty 18 rfl) rfl (fun c => ?_) (fun c => ?_)
  · have H := H.1 c
    refine x_aload_n (x_at tdX5_empty 26 rfl) rfl rfl ?_
    refine gfC_21_16 (x_at tdX5_empty 27 rfl) wf_X5_51 ?_
    refine x_cVv (as := []) (rest := []) mi_X10_empty vc_10 (lC_34 h) (x_at tdX5_empty 28 rfl) wm_X5_71 rfl (Nat.le_of_ble_eq_true rfl) rfl H (fun S1 H => ?_)
    refine x_aload_n (x_at tdX5_empty 29 rfl) rfl rfl ?_
    refine x_bipush (x_at tdX5_empty 30 rfl) k_b_8 ?_
    refine pfC_21_17 (x_at tdX5_empty 31 rfl) wf_X5_72 ?_
    refine x_aload_n (x_at tdX5_empty 32 rfl) rfl rfl ?_
    refine x_iconst (x_at tdX5_empty 33 rfl) k_c_0 ?_
    refine pfC_21_18 (x_at tdX5_empty 34 rfl) wf_X5_75 ?_
    refine x_aload_n (x_at tdX5_empty 35 rfl) rfl rfl ?_
    refine x_iconst (x_at tdX5_empty 36 rfl) k_c_0 ?_
    refine pfC_21_19 (x_at tdX5_empty 37 rfl) wf_X5_78 ?_
    exact x_return rfl (x_at tdX5_empty 38 rfl) ⟨rfl, H⟩
  · have H := H.2 c
    refine x_aload_n (x_at tdX5_empty 19 rfl) rfl rfl ?_
    refine gfC_21_15 (x_at tdX5_empty 20 rfl) wf_X5_45 ?_
    refine x_iload_n (x_at tdX5_empty 21 rfl) rfl rfl ?_
    refine x_bipush (x_at tdX5_empty 22 rfl) k_b_m100 ?_
    refine x_iast (lC_33 h) (x_at tdX5_empty 23 rfl) H.1 ?_
    have H := H.2
    refine x_iinc (x_at tdX5_empty 24 rfl) rfl (k_inc_1 _) (by decide) ?_
    refine x_goto 22 (x_at tdX5_empty 25 rfl) rfl ?_
    refine x_weak (lv' := [(0, .ref (x_ad (gC h) 21)), (1, .int (x1 + 1))]) ⟨rfl, rfl, trivial⟩ ?_
    exact H
theorem e_Tk_open {h : xH} {d : Nat} {x2 : Int32} {S : xSt} {K : xSt → Prop}  (H : M_Tk_advance h d (x_putI (x_putI (x_putI (x_putI (x_putR S 19 1) 19 1 (if 1600 < x2 then 1600 else x2)) 19 2 0) 19 7 0) 19 8 (-1)) (fun (S1 : xSt) => K S1)) : M_Tk_open h d x2 S K := by
  refine x_enter pn_X7 (Nat.le_of_ble_eq_true rfl) ?_
  show X (gC h) _ _ 0 [(0, .ref (x_ad (gC h) 19)), (1, .ref (x_ad (gC h) 1)), (2, .int x2)] [] S _
  refine x_aload_n (x_at tdX7_open 0 rfl) rfl rfl ?_
  refine x_aload_n (x_at tdX7_open 1 rfl) rfl rfl ?_
  refine pfC_19_0 (x_at tdX7_open 2 rfl) wf_X7_9 ?_
  refine x_aload_n (x_at tdX7_open 3 rfl) rfl rfl ?_
  refine x_iload_n (x_at tdX7_open 4 rfl) rfl rfl ?_
  refine x_aload_n (x_at tdX7_open 5 rfl) rfl rfl ?_
  refine x_alen (by decide) (lC_1 h) (x_at tdX7_open 6 rfl) ?_
  refine x_top (v := 1600) (by decide) ?_
  refine x_mmin wm_X7_15 ws_min wi_J9 wc_min (x_at tdX7_open 7 rfl) (Nat.le_of_ble_eq_true rfl) ?_
  refine pfC_19_1 (x_at tdX7_open 8 rfl) wf_X7_21 ?_
  refine x_aload_n (x_at tdX7_open 9 rfl) rfl rfl ?_
  refine x_iconst (x_at tdX7_open 10 rfl) k_c_0 ?_
  refine pfC_19_2 (x_at tdX7_open 11 rfl) wf_X7_25 ?_
  refine x_aload_n (x_at tdX7_open 12 rfl) rfl rfl ?_
  refine x_iconst (x_at tdX7_open 13 rfl) k_c_0 ?_
  refine pfC_19_7 (x_at tdX7_open 14 rfl) wf_X7_28 ?_
  refine x_aload_n (x_at tdX7_open 15 rfl) rfl rfl ?_
  refine x_iconst (x_at tdX7_open 16 rfl) k_c_m1 ?_
  refine pfC_19_8 (x_at tdX7_open 17 rfl) wf_X7_31 ?_
  refine x_aload_n (x_at tdX7_open 18 rfl) rfl rfl ?_
  refine x_cVv (as := []) (rest := []) mi_X7_advance vc_7 (lC_19 h) (x_at tdX7_open 19 rfl) wm_X7_34 rfl (Nat.le_of_ble_eq_true rfl) rfl H (fun S1 H => ?_)
  exact x_return rfl (x_at tdX7_open 20 rfl) ⟨rfl, H⟩
theorem e_Rd_readText {h : xH} {d : Nat} {x2 : Int32} {S : xSt} {K : Int32 → xSt → Prop}  (H : M_Rg_empty_21 h (d + 76) S (fun (S1 : xSt) => M_Tk_open h (d + 67) x2 (x_putI S1 18 6 0) (fun (S2 : xSt) => B_Rd_readText_26 h d 1 0 S2 K))) : M_Rd_readText h d x2 S K := by
  refine x_enter pn_X4 (Nat.le_of_ble_eq_true rfl) ?_
  show X (gC h) _ _ 0 [(0, .ref (x_ad (gC h) 18)), (1, .ref (x_ad (gC h) 1)), (2, .int x2)] [] S _
  refine x_aload_n (x_at tdX4_readText 0 rfl) rfl rfl ?_
  refine gfC_18_1 (x_at tdX4_readText 1 rfl) wf_X4_21 ?_
  refine x_cVv (as := []) (rest := []) mi_X5_empty vc_5 (lC_21 h) (x_at tdX4_readText 2 rfl) wm_X4_48 rfl (Nat.le_of_ble_eq_true rfl) rfl H (fun S1 H => ?_)
  refine x_aload_n (x_at tdX4_readText 3 rfl) rfl rfl ?_
  refine x_iconst (x_at tdX4_readText 4 rfl) k_c_0 ?_
  refine pfC_18_6 (x_at tdX4_readText 5 rfl) wf_X4_51 ?_
  refine x_aload_n (x_at tdX4_readText 6 rfl) rfl rfl ?_
  refine gfC_18_0 (x_at tdX4_readText 7 rfl) wf_X4_12 ?_
  refine x_aload_n (x_at tdX4_readText 8 rfl) rfl rfl ?_
  refine x_iload_n (x_at tdX4_readText 9 rfl) rfl rfl ?_
  refine x_cVv (as := [.ref (x_ad (gC h) 1), .int x2]) (rest := []) mi_X7_open vc_7 (lC_19 h) (x_at tdX4_readText 10 rfl) wm_X4_55 rfl (Nat.le_of_ble_eq_true rfl) rfl H (fun S2 H => ?_)
  refine x_iconst (x_at tdX4_readText 11 rfl) k_c_1 ?_
  refine x_istore_n (x_at tdX4_readText 12 rfl) rfl (by decide) ?_
  refine x_iconst (x_at tdX4_readText 13 rfl) k_c_0 ?_
  refine x_istore (x_at tdX4_readText 14 rfl) (by decide) ?_
  refine x_weak (lv' := [(0, .ref (x_ad (gC h) 18)), (3, .int 1), (4, .int 0)]) ⟨rfl, rfl, rfl, trivial⟩ ?_
  exact H
theorem b_Rd_readText_26 {h : xH} {d : Nat}  {x3 : Int32} {x4 : Int32} {S : xSt} {K : Int32 → xSt → Prop}  (H : ((1600 ≤ x4 → (zb x3 ∧ K x3 S)) ∧ (¬ 1600 ≤ x4 → ((x3 = 0 → (zb x3 ∧ K x3 S)) ∧ (¬ x3 = 0 → (((S.1 19 4) = 0 → (zb x3 ∧ K x3 S)) ∧ (¬ (S.1 19 4) = 0 → ((¬ (S.1 19 4) = 3 → B_Rd_readText_70 h d x4 (-1) S K) ∧ ((S.1 19 4) = 3 → B_Rd_readText_70 h d x4 (S.1 19 5) S K))))))))) : B_Rd_readText_26 h d x3 x4 S K := by
  unfold B_Rd_readText_26
  refine x_iload (x_at tdX4_readText 15 rfl) rfl ?_
  refine x_sipush (x_at tdX4_readText 16 rfl) k_s_1600 ?_
  refine x_ic_ge 279 (x_at tdX4_readText 17 rfl) rfl (fun c => ?_) (fun c => ?_)
  · have H := H.1 c
    refine x_iload_n (x_at tdX4_readText 93 rfl) rfl rfl ?_
    exact x_ireturn (ty := .boolean) rfl H.1.1 (x_at tdX4_readText 94 rfl) ⟨_, rfl, H.2⟩
  · have H := H.2 c
    refine x_iload_n (x_at tdX4_readText 18 rfl) rfl rfl ?_
    refine x_if_eq 279 (x_at tdX4_readText 19 rfl) rfl (fun c => ?_) (fun c => ?_)
    · have H := H.1 c
      refine x_iload_n (x_at tdX4_readText 93 rfl) rfl rfl ?_
      exact x_ireturn (ty := .boolean) rfl H.1.1 (x_at tdX4_readText 94 rfl) ⟨_, rfl, H.2⟩
    · have H := H.2 c
      refine x_aload_n (x_at tdX4_readText 20 rfl) rfl rfl ?_
      refine gfC_18_0 (x_at tdX4_readText 21 rfl) wf_X4_12 ?_
      refine gfC_19_4 (x_at tdX4_readText 22 rfl) wf_X4_59 ?_
      refine x_if_eq 279 (x_at tdX4_readText 23 rfl) rfl (fun c => ?_) (fun c => ?_)
      · have H := H.1 c
        refine x_iload_n (x_at tdX4_readText 93 rfl) rfl rfl ?_
        exact x_ireturn (ty := .boolean) rfl H.1.1 (x_at tdX4_readText 94 rfl) ⟨_, rfl, H.2⟩
      · have H := H.2 c
        refine x_aload_n (x_at tdX4_readText 24 rfl) rfl rfl ?_
        refine gfC_18_0 (x_at tdX4_readText 25 rfl) wf_X4_12 ?_
        refine gfC_19_4 (x_at tdX4_readText 26 rfl) wf_X4_59 ?_
        refine x_iconst (x_at tdX4_readText 27 rfl) k_c_3 ?_
        refine x_ic_ne 69 (x_at tdX4_readText 28 rfl) rfl (fun c => ?_) (fun c => ?_)
        · have H := H.1 c
          refine x_iconst (x_at tdX4_readText 33 rfl) k_c_m1 ?_
          refine x_weak (lv' := [(0, .ref (x_ad (gC h) 18)), (4, .int x4)]) ⟨rfl, rfl, trivial⟩ ?_
          exact H
        · have H := H.2 c
          refine x_aload_n (x_at tdX4_readText 29 rfl) rfl rfl ?_
          refine gfC_18_0 (x_at tdX4_readText 30 rfl) wf_X4_12 ?_
          refine gfC_19_5 (x_at tdX4_readText 31 rfl) wf_X4_62 ?_
          refine x_goto 70 (x_at tdX4_readText 32 rfl) rfl ?_
          refine x_weak (lv' := [(0, .ref (x_ad (gC h) 18)), (4, .int x4)]) ⟨rfl, rfl, trivial⟩ ?_
          exact H
theorem b_Rd_readText_70 {h : xH} {d : Nat}  {x4 : Int32} {s0 : Int32} {S : xSt} {K : Int32 → xSt → Prop}  (H : (((s0.toInt < 0 ∨ 18 < s0.toInt) → M_Tk_refuse h (d + 76) 2 S (fun (r1 : Int32) (S1 : xSt) => B_Rd_readText_251 h d r1 x4 S1 K)) ∧ (s0 = 0 → M_Rd_readMan h (d + 65) S (fun (r2 : Int32) (S2 : xSt) => B_Rd_readText_251 h d r2 x4 S2 K)) ∧ (s0 = 1 → M_Tk_refuse h (d + 76) 2 S (fun (r3 : Int32) (S3 : xSt) => B_Rd_readText_251 h d r3 x4 S3 K)) ∧ (s0 = 2 → M_Tk_refuse h (d + 76) 2 S (fun (r4 : Int32) (S4 : xSt) => B_Rd_readText_251 h d r4 x4 S4 K)) ∧ (s0 = 3 → M_Tk_refuse h (d + 76) 2 S (fun (r5 : Int32) (S5 : xSt) => B_Rd_readText_251 h d r5 x4 S5 K)) ∧ (s0 = 4 → M_Rd_readDeed h (d + 66) S (fun (r6 : Int32) (S6 : xSt) => B_Rd_readText_251 h d r6 x4 S6 K)) ∧ (s0 = 5 → M_Tk_refuse h (d + 76) 2 S (fun (r7 : Int32) (S7 : xSt) => B_Rd_readText_251 h d r7 x4 S7 K)) ∧ (s0 = 6 → M_Rd_readButton h (d + 65) S (fun (r8 : Int32) (S8 : xSt) => B_Rd_readText_251 h d r8 x4 S8 K)) ∧ (s0 = 7 → M_Tk_refuse h (d + 76) 2 S (fun (r9 : Int32) (S9 : xSt) => B_Rd_readText_251 h d r9 x4 S9 K)) ∧ (s0 = 8 → M_Tk_refuse h (d + 76) 2 S (fun (r10 : Int32) (S10 : xSt) => B_Rd_readText_251 h d r10 x4 S10 K)) ∧ (s0 = 9 → M_Tk_refuse h (d + 76) 2 S (fun (r11 : Int32) (S11 : xSt) => B_Rd_readText_251 h d r11 x4 S11 K)) ∧ (s0 = 10 → M_Tk_refuse h (d + 76) 2 S (fun (r12 : Int32) (S12 : xSt) => B_Rd_readText_251 h d r12 x4 S12 K)) ∧ (s0 = 11 → M_Tk_refuse h (d + 76) 2 S (fun (r13 : Int32) (S13 : xSt) => B_Rd_readText_251 h d r13 x4 S13 K)) ∧ (s0 = 12 → M_Tk_refuse h (d + 76) 2 S (fun (r14 : Int32) (S14 : xSt) => B_Rd_readText_251 h d r14 x4 S14 K)) ∧ (s0 = 13 → M_Tk_refuse h (d + 76) 2 S (fun (r15 : Int32) (S15 : xSt) => B_Rd_readText_251 h d r15 x4 S15 K)) ∧ (s0 = 14 → M_Rd_readFriend h (d + 66) S (fun (r16 : Int32) (S16 : xSt) => B_Rd_readText_251 h d r16 x4 S16 K)) ∧ (s0 = 15 → M_Rd_opensOnce h (d + 67) S (fun (r17 : Int32) (S17 : xSt) => ((r17 = 0 → B_Rd_readText_213 h d x4 S17 K) ∧ (¬ r17 = 0 → M_Fr_readFormula h d S17 (fun (r18 : Int32) (S18 : xSt) => ((r18 = 0 → B_Rd_readText_213 h d x4 S18 K) ∧ (¬ r18 = 0 → B_Rd_readText_214 h d x4 1 S18 K))))))) ∧ (s0 = 16 → M_Rd_readHoursOfDay h (d + 66) S (fun (r19 : Int32) (S19 : xSt) => B_Rd_readText_251 h d r19 x4 S19 K)) ∧ (s0 = 17 → M_Rd_readStorm h (d + 66) S (fun (r20 : Int32) (S20 : xSt) => B_Rd_readText_251 h d r20 x4 S20 K)) ∧ (s0 = 18 → M_Rd_readDraw h (d + 66) S (fun (r21 : Int32) (S21 : xSt) => B_Rd_readText_251 h d r21 x4 S21 K)))) : B_Rd_readText_70 h d x4 s0 S K := by
  unfold B_Rd_readText_70
  by_cases hq : (s0 : Int32).toInt < 0 ∨ 18 < (s0 : Int32).toInt
  · refine x_tableOut 242 (x_at tdX4_readText 34 rfl) hq rfl ?_
    have H := H.1 hq
    refine x_aload_n (x_at tdX4_readText 75 rfl) rfl rfl ?_
    refine gfC_18_0 (x_at tdX4_readText 76 rfl) wf_X4_12 ?_
    refine x_iconst (x_at tdX4_readText 77 rfl) k_c_2 ?_
    refine x_cVi (as := [.int 2]) (rest := []) mi_X7_refuse vc_7 (lC_19 h) (x_at tdX4_readText 78 rfl) wm_X4_93 rfl (Nat.le_of_ble_eq_true rfl) rfl H (fun r1 S1 H => ?_)
    refine x_istore_n (x_at tdX4_readText 79 rfl) rfl (by decide) ?_
    refine x_weak (lv' := [(0, .ref (x_ad (gC h) 18)), (3, .int r1), (4, .int x4)]) ⟨rfl, rfl, rfl, trivial⟩ ?_
    exact H
  · rcases sw_in_0_18 hq with hx | hx | hx | hx | hx | hx | hx | hx | hx | hx | hx | hx | hx | hx | hx | hx | hx | hx | hx
    · refine x_tsw 160 (x_at tdX4_readText 34 rfl) hx (by decide) (by decide) rfl rfl ?_
      have H := H.2.1 hx
      refine x_aload_n (x_at tdX4_readText 35 rfl) rfl rfl ?_
      refine x_cVi (as := []) (rest := []) mi_X4_readMan vc_4 (lC_18 h) (x_at tdX4_readText 36 rfl) wm_X4_65 rfl (Nat.le_of_ble_eq_true rfl) rfl H (fun r2 S2 H => ?_)
      refine x_istore_n (x_at tdX4_readText 37 rfl) rfl (by decide) ?_
      refine x_goto 251 (x_at tdX4_readText 38 rfl) rfl ?_
      refine x_weak (lv' := [(0, .ref (x_ad (gC h) 18)), (3, .int r2), (4, .int x4)]) ⟨rfl, rfl, rfl, trivial⟩ ?_
      exact H
    · refine x_tsw 242 (x_at tdX4_readText 34 rfl) hx (by decide) (by decide) rfl rfl ?_
      have H := H.2.2.1 hx
      refine x_aload_n (x_at tdX4_readText 75 rfl) rfl rfl ?_
      refine gfC_18_0 (x_at tdX4_readText 76 rfl) wf_X4_12 ?_
      refine x_iconst (x_at tdX4_readText 77 rfl) k_c_2 ?_
      refine x_cVi (as := [.int 2]) (rest := []) mi_X7_refuse vc_7 (lC_19 h) (x_at tdX4_readText 78 rfl) wm_X4_93 rfl (Nat.le_of_ble_eq_true rfl) rfl H (fun r3 S3 H => ?_)
      refine x_istore_n (x_at tdX4_readText 79 rfl) rfl (by decide) ?_
      refine x_weak (lv' := [(0, .ref (x_ad (gC h) 18)), (3, .int r3), (4, .int x4)]) ⟨rfl, rfl, rfl, trivial⟩ ?_
      exact H
    · refine x_tsw 242 (x_at tdX4_readText 34 rfl) hx (by decide) (by decide) rfl rfl ?_
      have H := H.2.2.2.1 hx
      refine x_aload_n (x_at tdX4_readText 75 rfl) rfl rfl ?_
      refine gfC_18_0 (x_at tdX4_readText 76 rfl) wf_X4_12 ?_
      refine x_iconst (x_at tdX4_readText 77 rfl) k_c_2 ?_
      refine x_cVi (as := [.int 2]) (rest := []) mi_X7_refuse vc_7 (lC_19 h) (x_at tdX4_readText 78 rfl) wm_X4_93 rfl (Nat.le_of_ble_eq_true rfl) rfl H (fun r4 S4 H => ?_)
      refine x_istore_n (x_at tdX4_readText 79 rfl) rfl (by decide) ?_
      refine x_weak (lv' := [(0, .ref (x_ad (gC h) 18)), (3, .int r4), (4, .int x4)]) ⟨rfl, rfl, rfl, trivial⟩ ?_
      exact H
    · refine x_tsw 242 (x_at tdX4_readText 34 rfl) hx (by decide) (by decide) rfl rfl ?_
      have H := H.2.2.2.2.1 hx
      refine x_aload_n (x_at tdX4_readText 75 rfl) rfl rfl ?_
      refine gfC_18_0 (x_at tdX4_readText 76 rfl) wf_X4_12 ?_
      refine x_iconst (x_at tdX4_readText 77 rfl) k_c_2 ?_
      refine x_cVi (as := [.int 2]) (rest := []) mi_X7_refuse vc_7 (lC_19 h) (x_at tdX4_readText 78 rfl) wm_X4_93 rfl (Nat.le_of_ble_eq_true rfl) rfl H (fun r5 S5 H => ?_)
      refine x_istore_n (x_at tdX4_readText 79 rfl) rfl (by decide) ?_
      refine x_weak (lv' := [(0, .ref (x_ad (gC h) 18)), (3, .int r5), (4, .int x4)]) ⟨rfl, rfl, rfl, trivial⟩ ?_
      exact H
    · refine x_tsw 168 (x_at tdX4_readText 34 rfl) hx (by decide) (by decide) rfl rfl ?_
      have H := H.2.2.2.2.2.1 hx
      refine x_aload_n (x_at tdX4_readText 39 rfl) rfl rfl ?_
      refine x_cVi (as := []) (rest := []) mi_X4_readDeed vc_4 (lC_18 h) (x_at tdX4_readText 40 rfl) wm_X4_69 rfl (Nat.le_of_ble_eq_true rfl) rfl H (fun r6 S6 H => ?_)
      refine x_istore_n (x_at tdX4_readText 41 rfl) rfl (by decide) ?_
      refine x_goto 251 (x_at tdX4_readText 42 rfl) rfl ?_
      refine x_weak (lv' := [(0, .ref (x_ad (gC h) 18)), (3, .int r6), (4, .int x4)]) ⟨rfl, rfl, rfl, trivial⟩ ?_
      exact H
    · refine x_tsw 242 (x_at tdX4_readText 34 rfl) hx (by decide) (by decide) rfl rfl ?_
      have H := H.2.2.2.2.2.2.1 hx
      refine x_aload_n (x_at tdX4_readText 75 rfl) rfl rfl ?_
      refine gfC_18_0 (x_at tdX4_readText 76 rfl) wf_X4_12 ?_
      refine x_iconst (x_at tdX4_readText 77 rfl) k_c_2 ?_
      refine x_cVi (as := [.int 2]) (rest := []) mi_X7_refuse vc_7 (lC_19 h) (x_at tdX4_readText 78 rfl) wm_X4_93 rfl (Nat.le_of_ble_eq_true rfl) rfl H (fun r7 S7 H => ?_)
      refine x_istore_n (x_at tdX4_readText 79 rfl) rfl (by decide) ?_
      refine x_weak (lv' := [(0, .ref (x_ad (gC h) 18)), (3, .int r7), (4, .int x4)]) ⟨rfl, rfl, rfl, trivial⟩ ?_
      exact H
    · refine x_tsw 176 (x_at tdX4_readText 34 rfl) hx (by decide) (by decide) rfl rfl ?_
      have H := H.2.2.2.2.2.2.2.1 hx
      refine x_aload_n (x_at tdX4_readText 43 rfl) rfl rfl ?_
      refine x_cVi (as := []) (rest := []) mi_X4_readButton vc_4 (lC_18 h) (x_at tdX4_readText 44 rfl) wm_X4_72 rfl (Nat.le_of_ble_eq_true rfl) rfl H (fun r8 S8 H => ?_)
      refine x_istore_n (x_at tdX4_readText 45 rfl) rfl (by decide) ?_
      refine x_goto 251 (x_at tdX4_readText 46 rfl) rfl ?_
      refine x_weak (lv' := [(0, .ref (x_ad (gC h) 18)), (3, .int r8), (4, .int x4)]) ⟨rfl, rfl, rfl, trivial⟩ ?_
      exact H
    · refine x_tsw 242 (x_at tdX4_readText 34 rfl) hx (by decide) (by decide) rfl rfl ?_
      have H := H.2.2.2.2.2.2.2.2.1 hx
      refine x_aload_n (x_at tdX4_readText 75 rfl) rfl rfl ?_
      refine gfC_18_0 (x_at tdX4_readText 76 rfl) wf_X4_12 ?_
      refine x_iconst (x_at tdX4_readText 77 rfl) k_c_2 ?_
      refine x_cVi (as := [.int 2]) (rest := []) mi_X7_refuse vc_7 (lC_19 h) (x_at tdX4_readText 78 rfl) wm_X4_93 rfl (Nat.le_of_ble_eq_true rfl) rfl H (fun r9 S9 H => ?_)
      refine x_istore_n (x_at tdX4_readText 79 rfl) rfl (by decide) ?_
      refine x_weak (lv' := [(0, .ref (x_ad (gC h) 18)), (3, .int r9), (4, .int x4)]) ⟨rfl, rfl, rfl, trivial⟩ ?_
      exact H
    · refine x_tsw 242 (x_at tdX4_readText 34 rfl) hx (by decide) (by decide) rfl rfl ?_
      have H := H.2.2.2.2.2.2.2.2.2.1 hx
      refine x_aload_n (x_at tdX4_readText 75 rfl) rfl rfl ?_
      refine gfC_18_0 (x_at tdX4_readText 76 rfl) wf_X4_12 ?_
      refine x_iconst (x_at tdX4_readText 77 rfl) k_c_2 ?_
      refine x_cVi (as := [.int 2]) (rest := []) mi_X7_refuse vc_7 (lC_19 h) (x_at tdX4_readText 78 rfl) wm_X4_93 rfl (Nat.le_of_ble_eq_true rfl) rfl H (fun r10 S10 H => ?_)
      refine x_istore_n (x_at tdX4_readText 79 rfl) rfl (by decide) ?_
      refine x_weak (lv' := [(0, .ref (x_ad (gC h) 18)), (3, .int r10), (4, .int x4)]) ⟨rfl, rfl, rfl, trivial⟩ ?_
      exact H
    · refine x_tsw 242 (x_at tdX4_readText 34 rfl) hx (by decide) (by decide) rfl rfl ?_
      have H := H.2.2.2.2.2.2.2.2.2.2.1 hx
      refine x_aload_n (x_at tdX4_readText 75 rfl) rfl rfl ?_
      refine gfC_18_0 (x_at tdX4_readText 76 rfl) wf_X4_12 ?_
      refine x_iconst (x_at tdX4_readText 77 rfl) k_c_2 ?_
      refine x_cVi (as := [.int 2]) (rest := []) mi_X7_refuse vc_7 (lC_19 h) (x_at tdX4_readText 78 rfl) wm_X4_93 rfl (Nat.le_of_ble_eq_true rfl) rfl H (fun r11 S11 H => ?_)
      refine x_istore_n (x_at tdX4_readText 79 rfl) rfl (by decide) ?_
      refine x_weak (lv' := [(0, .ref (x_ad (gC h) 18)), (3, .int r11), (4, .int x4)]) ⟨rfl, rfl, rfl, trivial⟩ ?_
      exact H
    · refine x_tsw 242 (x_at tdX4_readText 34 rfl) hx (by decide) (by decide) rfl rfl ?_
      have H := H.2.2.2.2.2.2.2.2.2.2.2.1 hx
      refine x_aload_n (x_at tdX4_readText 75 rfl) rfl rfl ?_
      refine gfC_18_0 (x_at tdX4_readText 76 rfl) wf_X4_12 ?_
      refine x_iconst (x_at tdX4_readText 77 rfl) k_c_2 ?_
      refine x_cVi (as := [.int 2]) (rest := []) mi_X7_refuse vc_7 (lC_19 h) (x_at tdX4_readText 78 rfl) wm_X4_93 rfl (Nat.le_of_ble_eq_true rfl) rfl H (fun r12 S12 H => ?_)
      refine x_istore_n (x_at tdX4_readText 79 rfl) rfl (by decide) ?_
      refine x_weak (lv' := [(0, .ref (x_ad (gC h) 18)), (3, .int r12), (4, .int x4)]) ⟨rfl, rfl, rfl, trivial⟩ ?_
      exact H
    · refine x_tsw 242 (x_at tdX4_readText 34 rfl) hx (by decide) (by decide) rfl rfl ?_
      have H := H.2.2.2.2.2.2.2.2.2.2.2.2.1 hx
      refine x_aload_n (x_at tdX4_readText 75 rfl) rfl rfl ?_
      refine gfC_18_0 (x_at tdX4_readText 76 rfl) wf_X4_12 ?_
      refine x_iconst (x_at tdX4_readText 77 rfl) k_c_2 ?_
      refine x_cVi (as := [.int 2]) (rest := []) mi_X7_refuse vc_7 (lC_19 h) (x_at tdX4_readText 78 rfl) wm_X4_93 rfl (Nat.le_of_ble_eq_true rfl) rfl H (fun r13 S13 H => ?_)
      refine x_istore_n (x_at tdX4_readText 79 rfl) rfl (by decide) ?_
      refine x_weak (lv' := [(0, .ref (x_ad (gC h) 18)), (3, .int r13), (4, .int x4)]) ⟨rfl, rfl, rfl, trivial⟩ ?_
      exact H
    · refine x_tsw 242 (x_at tdX4_readText 34 rfl) hx (by decide) (by decide) rfl rfl ?_
      have H := H.2.2.2.2.2.2.2.2.2.2.2.2.2.1 hx
      refine x_aload_n (x_at tdX4_readText 75 rfl) rfl rfl ?_
      refine gfC_18_0 (x_at tdX4_readText 76 rfl) wf_X4_12 ?_
      refine x_iconst (x_at tdX4_readText 77 rfl) k_c_2 ?_
      refine x_cVi (as := [.int 2]) (rest := []) mi_X7_refuse vc_7 (lC_19 h) (x_at tdX4_readText 78 rfl) wm_X4_93 rfl (Nat.le_of_ble_eq_true rfl) rfl H (fun r14 S14 H => ?_)
      refine x_istore_n (x_at tdX4_readText 79 rfl) rfl (by decide) ?_
      refine x_weak (lv' := [(0, .ref (x_ad (gC h) 18)), (3, .int r14), (4, .int x4)]) ⟨rfl, rfl, rfl, trivial⟩ ?_
      exact H
    · refine x_tsw 242 (x_at tdX4_readText 34 rfl) hx (by decide) (by decide) rfl rfl ?_
      have H := H.2.2.2.2.2.2.2.2.2.2.2.2.2.2.1 hx
      refine x_aload_n (x_at tdX4_readText 75 rfl) rfl rfl ?_
      refine gfC_18_0 (x_at tdX4_readText 76 rfl) wf_X4_12 ?_
      refine x_iconst (x_at tdX4_readText 77 rfl) k_c_2 ?_
      refine x_cVi (as := [.int 2]) (rest := []) mi_X7_refuse vc_7 (lC_19 h) (x_at tdX4_readText 78 rfl) wm_X4_93 rfl (Nat.le_of_ble_eq_true rfl) rfl H (fun r15 S15 H => ?_)
      refine x_istore_n (x_at tdX4_readText 79 rfl) rfl (by decide) ?_
      refine x_weak (lv' := [(0, .ref (x_ad (gC h) 18)), (3, .int r15), (4, .int x4)]) ⟨rfl, rfl, rfl, trivial⟩ ?_
      exact H
    · refine x_tsw 184 (x_at tdX4_readText 34 rfl) hx (by decide) (by decide) rfl rfl ?_
      have H := H.2.2.2.2.2.2.2.2.2.2.2.2.2.2.2.1 hx
      refine x_aload_n (x_at tdX4_readText 47 rfl) rfl rfl ?_
      refine x_cVi (as := []) (rest := []) mi_X4_readFriend vc_4 (lC_18 h) (x_at tdX4_readText 48 rfl) wm_X4_75 rfl (Nat.le_of_ble_eq_true rfl) rfl H (fun r16 S16 H => ?_)
      refine x_istore_n (x_at tdX4_readText 49 rfl) rfl (by decide) ?_
      refine x_goto 251 (x_at tdX4_readText 50 rfl) rfl ?_
      refine x_weak (lv' := [(0, .ref (x_ad (gC h) 18)), (3, .int r16), (4, .int x4)]) ⟨rfl, rfl, rfl, trivial⟩ ?_
      exact H
    · refine x_tsw 192 (x_at tdX4_readText 34 rfl) hx (by decide) (by decide) rfl rfl ?_
      have H := H.2.2.2.2.2.2.2.2.2.2.2.2.2.2.2.2.1 hx
      refine x_aload_n (x_at tdX4_readText 51 rfl) rfl rfl ?_
      refine x_cVi (as := []) (rest := []) mi_X4_opensOnce vc_4 (lC_18 h) (x_at tdX4_readText 52 rfl) wm_X4_78 rfl (Nat.le_of_ble_eq_true rfl) rfl H (fun r17 S17 H => ?_)
      refine x_if_eq 213 (x_at tdX4_readText 53 rfl) rfl (fun c => ?_) (fun c => ?_)
      · have H := H.1 c
        refine x_weak (lv' := [(0, .ref (x_ad (gC h) 18)), (4, .int x4)]) ⟨rfl, rfl, trivial⟩ ?_
        exact H
      · have H := H.2 c
        refine x_aload_n (x_at tdX4_readText 54 rfl) rfl rfl ?_
        refine gfC_18_2 (x_at tdX4_readText 55 rfl) wf_X4_34 ?_
        refine x_cVi (as := []) (rest := []) mi_X1_readFormula vc_1 (lC_37 h) (x_at tdX4_readText 56 rfl) wm_X4_81 rfl (Nat.le_of_ble_eq_true rfl) rfl H (fun r18 S18 H => ?_)
        refine x_if_eq 213 (x_at tdX4_readText 57 rfl) rfl (fun c => ?_) (fun c => ?_)
        · have H := H.1 c
          refine x_weak (lv' := [(0, .ref (x_ad (gC h) 18)), (4, .int x4)]) ⟨rfl, rfl, trivial⟩ ?_
          exact H
        · have H := H.2 c
          refine x_iconst (x_at tdX4_readText 58 rfl) k_c_1 ?_
          refine x_goto 214 (x_at tdX4_readText 59 rfl) rfl ?_
          refine x_weak (lv' := [(0, .ref (x_ad (gC h) 18)), (4, .int x4)]) ⟨rfl, rfl, trivial⟩ ?_
          exact H
    · refine x_tsw 218 (x_at tdX4_readText 34 rfl) hx (by decide) (by decide) rfl rfl ?_
      have H := H.2.2.2.2.2.2.2.2.2.2.2.2.2.2.2.2.2.1 hx
      refine x_aload_n (x_at tdX4_readText 63 rfl) rfl rfl ?_
      refine x_cVi (as := []) (rest := []) mi_X4_readHoursOfDay vc_4 (lC_18 h) (x_at tdX4_readText 64 rfl) wm_X4_84 rfl (Nat.le_of_ble_eq_true rfl) rfl H (fun r19 S19 H => ?_)
      refine x_istore_n (x_at tdX4_readText 65 rfl) rfl (by decide) ?_
      refine x_goto 251 (x_at tdX4_readText 66 rfl) rfl ?_
      refine x_weak (lv' := [(0, .ref (x_ad (gC h) 18)), (3, .int r19), (4, .int x4)]) ⟨rfl, rfl, rfl, trivial⟩ ?_
      exact H
    · refine x_tsw 226 (x_at tdX4_readText 34 rfl) hx (by decide) (by decide) rfl rfl ?_
      have H := H.2.2.2.2.2.2.2.2.2.2.2.2.2.2.2.2.2.2.1 hx
      refine x_aload_n (x_at tdX4_readText 67 rfl) rfl rfl ?_
      refine x_cVi (as := []) (rest := []) mi_X4_readStorm vc_4 (lC_18 h) (x_at tdX4_readText 68 rfl) wm_X4_87 rfl (Nat.le_of_ble_eq_true rfl) rfl H (fun r20 S20 H => ?_)
      refine x_istore_n (x_at tdX4_readText 69 rfl) rfl (by decide) ?_
      refine x_goto 251 (x_at tdX4_readText 70 rfl) rfl ?_
      refine x_weak (lv' := [(0, .ref (x_ad (gC h) 18)), (3, .int r20), (4, .int x4)]) ⟨rfl, rfl, rfl, trivial⟩ ?_
      exact H
    · refine x_tsw 234 (x_at tdX4_readText 34 rfl) hx (by decide) (by decide) rfl rfl ?_
      have H := H.2.2.2.2.2.2.2.2.2.2.2.2.2.2.2.2.2.2.2 hx
      refine x_aload_n (x_at tdX4_readText 71 rfl) rfl rfl ?_
      refine x_cVi (as := []) (rest := []) mi_X4_readDraw vc_4 (lC_18 h) (x_at tdX4_readText 72 rfl) wm_X4_90 rfl (Nat.le_of_ble_eq_true rfl) rfl H (fun r21 S21 H => ?_)
      refine x_istore_n (x_at tdX4_readText 73 rfl) rfl (by decide) ?_
      refine x_goto 251 (x_at tdX4_readText 74 rfl) rfl ?_
      refine x_weak (lv' := [(0, .ref (x_ad (gC h) 18)), (3, .int r21), (4, .int x4)]) ⟨rfl, rfl, rfl, trivial⟩ ?_
      exact H
theorem b_Rd_readText_213 {h : xH} {d : Nat}  {x4 : Int32} {S : xSt} {K : Int32 → xSt → Prop}  (H : B_Rd_readText_214 h d x4 0 S K) : B_Rd_readText_213 h d x4 S K := by
  unfold B_Rd_readText_213
  refine x_iconst (x_at tdX4_readText 60 rfl) k_c_0 ?_
  refine x_weak (lv' := [(0, .ref (x_ad (gC h) 18)), (4, .int x4)]) ⟨rfl, rfl, trivial⟩ ?_
  exact H
theorem b_Rd_readText_214 {h : xH} {d : Nat}  {x4 : Int32} {s0 : Int32} {S : xSt} {K : Int32 → xSt → Prop}  (H : B_Rd_readText_251 h d s0 x4 S K) : B_Rd_readText_214 h d x4 s0 S K := by
  unfold B_Rd_readText_214
  refine x_istore_n (x_at tdX4_readText 61 rfl) rfl (by decide) ?_
  refine x_goto 251 (x_at tdX4_readText 62 rfl) rfl ?_
  refine x_weak (lv' := [(0, .ref (x_ad (gC h) 18)), (3, .int s0), (4, .int x4)]) ⟨rfl, rfl, rfl, trivial⟩ ?_
  exact H
theorem b_Rd_readText_251 {h : xH} {d : Nat}  {x3 : Int32} {x4 : Int32} {S : xSt} {K : Int32 → xSt → Prop}  (H : ((x3 = 0 → B_Rd_readText_271 h d x4 S K) ∧ (¬ x3 = 0 → M_Tk_takesSign h (d + 67) 59 S (fun (r1 : Int32) (S1 : xSt) => ((r1 = 0 → B_Rd_readText_271 h d x4 S1 K) ∧ (¬ r1 = 0 → B_Rd_readText_272 h d x4 1 S1 K)))))) : B_Rd_readText_251 h d x3 x4 S K := by
  unfold B_Rd_readText_251
  refine x_iload_n (x_at tdX4_readText 80 rfl) rfl rfl ?_
  refine x_if_eq 271 (x_at tdX4_readText 81 rfl) rfl (fun c => ?_) (fun c => ?_)
  · have H := H.1 c
    refine x_weak (lv' := [(0, .ref (x_ad (gC h) 18)), (4, .int x4)]) ⟨rfl, rfl, trivial⟩ ?_
    exact H
  · have H := H.2 c
    refine x_aload_n (x_at tdX4_readText 82 rfl) rfl rfl ?_
    refine gfC_18_0 (x_at tdX4_readText 83 rfl) wf_X4_12 ?_
    refine x_bipush (x_at tdX4_readText 84 rfl) k_b_59 ?_
    refine x_cVi (as := [.int 59]) (rest := []) mi_X7_takesSign vc_7 (lC_19 h) (x_at tdX4_readText 85 rfl) wm_X4_97 rfl (Nat.le_of_ble_eq_true rfl) rfl H (fun r1 S1 H => ?_)
    refine x_if_eq 271 (x_at tdX4_readText 86 rfl) rfl (fun c => ?_) (fun c => ?_)
    · have H := H.1 c
      refine x_weak (lv' := [(0, .ref (x_ad (gC h) 18)), (4, .int x4)]) ⟨rfl, rfl, trivial⟩ ?_
      exact H
    · have H := H.2 c
      refine x_iconst (x_at tdX4_readText 87 rfl) k_c_1 ?_
      refine x_goto 272 (x_at tdX4_readText 88 rfl) rfl ?_
      refine x_weak (lv' := [(0, .ref (x_ad (gC h) 18)), (4, .int x4)]) ⟨rfl, rfl, trivial⟩ ?_
      exact H
theorem b_Rd_readText_271 {h : xH} {d : Nat}  {x4 : Int32} {S : xSt} {K : Int32 → xSt → Prop}  (H : B_Rd_readText_272 h d x4 0 S K) : B_Rd_readText_271 h d x4 S K := by
  unfold B_Rd_readText_271
  refine x_iconst (x_at tdX4_readText 89 rfl) k_c_0 ?_
  refine x_weak (lv' := [(0, .ref (x_ad (gC h) 18)), (4, .int x4)]) ⟨rfl, rfl, trivial⟩ ?_
  exact H
theorem b_Rd_readText_272 {h : xH} {d : Nat}  {x4 : Int32} {s0 : Int32} {S : xSt} {K : Int32 → xSt → Prop}  (H : B_Rd_readText_26 h d s0 (x4 + 1) S K) : B_Rd_readText_272 h d x4 s0 S K := by
  unfold B_Rd_readText_272
  refine x_istore_n (x_at tdX4_readText 90 rfl) rfl (by decide) ?_
  refine x_iinc (x_at tdX4_readText 91 rfl) rfl (k_inc_1 _) (by decide) ?_
  refine x_goto 26 (x_at tdX4_readText 92 rfl) rfl ?_
  refine x_weak (lv' := [(0, .ref (x_ad (gC h) 18)), (3, .int s0), (4, .int (x4 + 1))]) ⟨rfl, rfl, rfl, trivial⟩ ?_
  exact H
theorem e_Rg_copy {h : xH} {d : Nat} {r0 : Nat} {r1 : Nat} {S : xSt} {K : xSt → Prop} {nr0 : Nat} (hr0 : layC[r0]? = some (.inl (0, nr0))) {nr1 : Nat} (hr1 : layC[r1]? = some (.inl (0, nr1))) (H : B_Rg_copy_2 h d r0 r1 0 S K) : M_Rg_copy h d r0 r1 S K := by
  refine x_enter pn_X5 (Nat.le_of_ble_eq_true rfl) ?_
  show X (gC h) _ _ 0 [(0, .ref (x_ad (gC h) r0)), (1, .ref (x_ad (gC h) r1))] [] S _
  refine x_iconst (x_at tdX5_copy 0 rfl) k_c_0 ?_
  refine x_istore_n (x_at tdX5_copy 1 rfl) rfl (by decide) ?_
  refine x_weak (lv' := [(0, .ref (x_ad (gC h) r0)), (1, .ref (x_ad (gC h) r1)), (2, .int 0)]) ⟨rfl, rfl, rfl, trivial⟩ ?_
  exact H
theorem b_Rg_copy_2 {h : xH} {d : Nat} {r0 : Nat} {r1 : Nat} {x2 : Int32} {S : xSt} {K : xSt → Prop} {nr0 : Nat} (hr0 : layC[r0]? = some (.inl (0, nr0))) {nr1 : Nat} (hr1 : layC[r1]? = some (.inl (0, nr1))) (H : (((nI nr0) ≤ x2 → K S) ∧ (¬ (nI nr0) ≤ x2 → (((nI nr1) ≤ x2 → K S) ∧ (¬ (nI nr1) ≤ x2 → (vp_in x2 nr0 ∧ (vp_in x2 nr1 ∧ B_Rg_copy_2 h d r0 r1 (x2 + 1) (x_putI S r1 (x2 : Int32).toNatClampNeg (S.1 r0 (x2 : Int32).toNatClampNeg)) K))))))) : B_Rg_copy_2 h d r0 r1 x2 S K := by
  unfold B_Rg_copy_2
  refine x_iload_n (x_at tdX5_copy 2 rfl) rfl rfl ?_
  refine x_aload_n (x_at tdX5_copy 3 rfl) rfl rfl ?_
  refine x_alen (by decide) hr0 (x_at tdX5_copy 4 rfl) ?_
  refine x_ic_ge 26 (x_at tdX5_copy 5 rfl) rfl (fun c => ?_) (fun c => ?_)
  · have H := H.1 c
    exact x_return rfl (x_at tdX5_copy 18 rfl) ⟨rfl, H⟩
  · have H := H.2 c
    refine x_iload_n (x_at tdX5_copy 6 rfl) rfl rfl ?_
    refine x_aload_n (x_at tdX5_copy 7 rfl) rfl rfl ?_
    refine x_alen (by decide) hr1 (x_at tdX5_copy 8 rfl) ?_
    refine x_ic_ge 26 (x_at tdX5_copy 9 rfl) rfl (fun c => ?_) (fun c => ?_)
    · have H := H.1 c
      exact x_return rfl (x_at tdX5_copy 18 rfl) ⟨rfl, H⟩
    · have H := H.2 c
      refine x_aload_n (x_at tdX5_copy 10 rfl) rfl rfl ?_
      refine x_iload_n (x_at tdX5_copy 11 rfl) rfl rfl ?_
      refine x_aload_n (x_at tdX5_copy 12 rfl) rfl rfl ?_
      refine x_iload_n (x_at tdX5_copy 13 rfl) rfl rfl ?_
      refine x_iald hr0 (x_at tdX5_copy 14 rfl) H.1 ?_
      have H := H.2
      refine x_iast hr1 (x_at tdX5_copy 15 rfl) H.1 ?_
      have H := H.2
      refine x_iinc (x_at tdX5_copy 16 rfl) rfl (k_inc_1 _) (by decide) ?_
      refine x_goto 2 (x_at tdX5_copy 17 rfl) rfl ?_
      refine x_weak (lv' := [(0, .ref (x_ad (gC h) r0)), (1, .ref (x_ad (gC h) r1)), (2, .int (x2 + 1))]) ⟨rfl, rfl, rfl, trivial⟩ ?_
      exact H
theorem e_Wr_takeOver_15 {h : xH} {d : Nat}  {S : xSt} {K : xSt → Prop}  (H : (((¬ (0 : Int32) < 0 ∧ ¬ (0 : Int32) < 0 ∧ ¬ (300 : Int32) < 0) ∧ 0 + 300 ≤ 300 ∧ 0 + 300 ≤ 300) ∧ K (x_putI (x_putI (x_putA S 16 (va_cpy (S.1 35) (S.1 16) 0 0 300)) 15 1 (S.1 34 1)) 15 3 (S.1 34 3)))) : M_Wr_takeOver_15 h d S K := by
  refine x_enter pn_X10 (Nat.le_of_ble_eq_true rfl) ?_
  show X (gC h) _ _ 0 [(0, .ref (x_ad (gC h) 15)), (1, .ref (x_ad (gC h) 34))] [] S _
  refine x_aload_n (x_at tdX10_takeOver 0 rfl) rfl rfl ?_
  refine gfC_34_0 (x_at tdX10_takeOver 1 rfl) wf_X10_9 ?_
  refine x_iconst (x_at tdX10_takeOver 2 rfl) k_c_0 ?_
  refine x_aload_n (x_at tdX10_takeOver 3 rfl) rfl rfl ?_
  refine gfC_15_0 (x_at tdX10_takeOver 4 rfl) wf_X10_9 ?_
  refine x_iconst (x_at tdX10_takeOver 5 rfl) k_c_0 ?_
  refine x_aload_n (x_at tdX10_takeOver 6 rfl) rfl rfl ?_
  refine gfC_15_0 (x_at tdX10_takeOver 7 rfl) wf_X10_9 ?_
  refine x_alen (by decide) (lC_16 h) (x_at tdX10_takeOver 8 rfl) ?_
  refine x_top (v := 300) (by decide) ?_
  refine x_copyI (lC_35 h) (lC_16 h) wm_X10_25 wn_arraycopy ws_arraycopy wi_J10 (x_at tdX10_takeOver 9 rfl) (Nat.le_of_ble_eq_true rfl) H.1 ?_
  have H := H.2
  refine x_aload_n (x_at tdX10_takeOver 10 rfl) rfl rfl ?_
  refine x_aload_n (x_at tdX10_takeOver 11 rfl) rfl rfl ?_
  refine gfC_34_1 (x_at tdX10_takeOver 12 rfl) wf_X10_18 ?_
  refine x_top (v := (S.1 34 1)) rfl ?_
  refine pfC_15_1 (x_at tdX10_takeOver 13 rfl) wf_X10_18 ?_
  refine x_aload_n (x_at tdX10_takeOver 14 rfl) rfl rfl ?_
  refine x_aload_n (x_at tdX10_takeOver 15 rfl) rfl rfl ?_
  refine gfC_34_3 (x_at tdX10_takeOver 16 rfl) wf_X10_22 ?_
  refine x_top (v := (S.1 34 3)) rfl ?_
  refine pfC_15_3 (x_at tdX10_takeOver 17 rfl) wf_X10_22 ?_
  exact x_return rfl (x_at tdX10_takeOver 18 rfl) ⟨rfl, H⟩
theorem e_Rg_takeOver_2 {h : xH} {d : Nat}  {S : xSt} {K : xSt → Prop}  (H : M_Rg_copy h (d + 1) 22 3 (x_putI S 2 0 (S.1 21 0)) (fun (S1 : xSt) => M_Rg_copy h (d + 1) 23 4 S1 (fun (S2 : xSt) => M_Rg_copy h (d + 1) 24 5 S2 (fun (S3 : xSt) => M_Rg_copy h (d + 1) 25 6 (x_putI S3 2 4 (S3.1 21 4)) (fun (S4 : xSt) => M_Rg_copy h (d + 1) 26 7 (x_putI S4 2 6 (S4.1 21 6)) (fun (S5 : xSt) => M_Rg_copy h (d + 1) 27 8 S5 (fun (S6 : xSt) => M_Rg_copy h (d + 1) 28 9 S6 (fun (S7 : xSt) => M_Rg_copy h (d + 1) 29 10 S7 (fun (S8 : xSt) => M_Rg_copy h (d + 1) 30 11 S8 (fun (S9 : xSt) => M_Rg_copy h (d + 1) 31 12 S9 (fun (S10 : xSt) => M_Rg_copy h (d + 1) 32 13 S10 (fun (S11 : xSt) => M_Rg_copy h (d + 1) 33 14 (x_putI S11 2 14 (S11.1 21 14)) (fun (S12 : xSt) => M_Wr_takeOver_15 h d S12 (fun (S13 : xSt) => K (x_putI (x_putI (x_putI S13 2 17 (S13.1 21 17)) 2 18 (S13.1 21 18)) 2 19 (S13.1 21 19)))))))))))))))) : M_Rg_takeOver_2 h d S K := by
  refine x_enter pn_X5 (Nat.le_of_ble_eq_true rfl) ?_
  show X (gC h) _ _ 0 [(0, .ref (x_ad (gC h) 2)), (1, .ref (x_ad (gC h) 21))] [] S _
  refine x_aload_n (x_at tdX5_takeOver 0 rfl) rfl rfl ?_
  refine x_aload_n (x_at tdX5_takeOver 1 rfl) rfl rfl ?_
  refine gfC_21_0 (x_at tdX5_takeOver 2 rfl) wf_X5_58 ?_
  refine pfC_2_0 (x_at tdX5_takeOver 3 rfl) wf_X5_58 ?_
  refine x_aload_n (x_at tdX5_takeOver 4 rfl) rfl rfl ?_
  refine gfC_21_1 (x_at tdX5_takeOver 5 rfl) wf_X5_9 ?_
  refine x_aload_n (x_at tdX5_takeOver 6 rfl) rfl rfl ?_
  refine gfC_2_1 (x_at tdX5_takeOver 7 rfl) wf_X5_9 ?_
  refine x_cSv (as := [.ref (x_ad (gC h) 22), .ref (x_ad (gC h) 3)]) (rest := []) mi_X5_copy (x_at tdX5_takeOver 8 rfl) wm_X5_81 rfl (Nat.le_of_ble_eq_true rfl) rfl H (fun S1 H => ?_)
  refine x_aload_n (x_at tdX5_takeOver 9 rfl) rfl rfl ?_
  refine gfC_21_2 (x_at tdX5_takeOver 10 rfl) wf_X5_15 ?_
  refine x_aload_n (x_at tdX5_takeOver 11 rfl) rfl rfl ?_
  refine gfC_2_2 (x_at tdX5_takeOver 12 rfl) wf_X5_15 ?_
  refine x_cSv (as := [.ref (x_ad (gC h) 23), .ref (x_ad (gC h) 4)]) (rest := []) mi_X5_copy (x_at tdX5_takeOver 13 rfl) wm_X5_81 rfl (Nat.le_of_ble_eq_true rfl) rfl H (fun S2 H => ?_)
  refine x_aload_n (x_at tdX5_takeOver 14 rfl) rfl rfl ?_
  refine gfC_21_3 (x_at tdX5_takeOver 15 rfl) wf_X5_18 ?_
  refine x_aload_n (x_at tdX5_takeOver 16 rfl) rfl rfl ?_
  refine gfC_2_3 (x_at tdX5_takeOver 17 rfl) wf_X5_18 ?_
  refine x_cSv (as := [.ref (x_ad (gC h) 24), .ref (x_ad (gC h) 5)]) (rest := []) mi_X5_copy (x_at tdX5_takeOver 18 rfl) wm_X5_81 rfl (Nat.le_of_ble_eq_true rfl) rfl H (fun S3 H => ?_)
  refine x_aload_n (x_at tdX5_takeOver 19 rfl) rfl rfl ?_
  refine x_aload_n (x_at tdX5_takeOver 20 rfl) rfl rfl ?_
  refine gfC_21_4 (x_at tdX5_takeOver 21 rfl) wf_X5_62 ?_
  refine pfC_2_4 (x_at tdX5_takeOver 22 rfl) wf_X5_62 ?_
  refine x_aload_n (x_at tdX5_takeOver 23 rfl) rfl rfl ?_
  refine gfC_21_5 (x_at tdX5_takeOver 24 rfl) wf_X5_21 ?_
  refine x_aload_n (x_at tdX5_takeOver 25 rfl) rfl rfl ?_
  refine gfC_2_5 (x_at tdX5_takeOver 26 rfl) wf_X5_21 ?_
  refine x_cSv (as := [.ref (x_ad (gC h) 25), .ref (x_ad (gC h) 6)]) (rest := []) mi_X5_copy (x_at tdX5_takeOver 27 rfl) wm_X5_81 rfl (Nat.le_of_ble_eq_true rfl) rfl H (fun S4 H => ?_)
  refine x_aload_n (x_at tdX5_takeOver 28 rfl) rfl rfl ?_
  refine x_aload_n (x_at tdX5_takeOver 29 rfl) rfl rfl ?_
  refine gfC_21_6 (x_at tdX5_takeOver 30 rfl) wf_X5_65 ?_
  refine pfC_2_6 (x_at tdX5_takeOver 31 rfl) wf_X5_65 ?_
  refine x_aload_n (x_at tdX5_takeOver 32 rfl) rfl rfl ?_
  refine gfC_21_7 (x_at tdX5_takeOver 33 rfl) wf_X5_24 ?_
  refine x_aload_n (x_at tdX5_takeOver 34 rfl) rfl rfl ?_
  refine gfC_2_7 (x_at tdX5_takeOver 35 rfl) wf_X5_24 ?_
  refine x_cSv (as := [.ref (x_ad (gC h) 26), .ref (x_ad (gC h) 7)]) (rest := []) mi_X5_copy (x_at tdX5_takeOver 36 rfl) wm_X5_81 rfl (Nat.le_of_ble_eq_true rfl) rfl H (fun S5 H => ?_)
  refine x_aload_n (x_at tdX5_takeOver 37 rfl) rfl rfl ?_
  refine gfC_21_8 (x_at tdX5_takeOver 38 rfl) wf_X5_27 ?_
  refine x_aload_n (x_at tdX5_takeOver 39 rfl) rfl rfl ?_
  refine gfC_2_8 (x_at tdX5_takeOver 40 rfl) wf_X5_27 ?_
  refine x_cSv (as := [.ref (x_ad (gC h) 27), .ref (x_ad (gC h) 8)]) (rest := []) mi_X5_copy (x_at tdX5_takeOver 41 rfl) wm_X5_81 rfl (Nat.le_of_ble_eq_true rfl) rfl H (fun S6 H => ?_)
  refine x_aload_n (x_at tdX5_takeOver 42 rfl) rfl rfl ?_
  refine gfC_21_9 (x_at tdX5_takeOver 43 rfl) wf_X5_30 ?_
  refine x_aload_n (x_at tdX5_takeOver 44 rfl) rfl rfl ?_
  refine gfC_2_9 (x_at tdX5_takeOver 45 rfl) wf_X5_30 ?_
  refine x_cSv (as := [.ref (x_ad (gC h) 28), .ref (x_ad (gC h) 9)]) (rest := []) mi_X5_copy (x_at tdX5_takeOver 46 rfl) wm_X5_81 rfl (Nat.le_of_ble_eq_true rfl) rfl H (fun S7 H => ?_)
  refine x_aload_n (x_at tdX5_takeOver 47 rfl) rfl rfl ?_
  refine gfC_21_10 (x_at tdX5_takeOver 48 rfl) wf_X5_33 ?_
  refine x_aload_n (x_at tdX5_takeOver 49 rfl) rfl rfl ?_
  refine gfC_2_10 (x_at tdX5_takeOver 50 rfl) wf_X5_33 ?_
  refine x_cSv (as := [.ref (x_ad (gC h) 29), .ref (x_ad (gC h) 10)]) (rest := []) mi_X5_copy (x_at tdX5_takeOver 51 rfl) wm_X5_81 rfl (Nat.le_of_ble_eq_true rfl) rfl H (fun S8 H => ?_)
  refine x_aload_n (x_at tdX5_takeOver 52 rfl) rfl rfl ?_
  refine gfC_21_11 (x_at tdX5_takeOver 53 rfl) wf_X5_36 ?_
  refine x_aload_n (x_at tdX5_takeOver 54 rfl) rfl rfl ?_
  refine gfC_2_11 (x_at tdX5_takeOver 55 rfl) wf_X5_36 ?_
  refine x_cSv (as := [.ref (x_ad (gC h) 30), .ref (x_ad (gC h) 11)]) (rest := []) mi_X5_copy (x_at tdX5_takeOver 56 rfl) wm_X5_81 rfl (Nat.le_of_ble_eq_true rfl) rfl H (fun S9 H => ?_)
  refine x_aload_n (x_at tdX5_takeOver 57 rfl) rfl rfl ?_
  refine gfC_21_12 (x_at tdX5_takeOver 58 rfl) wf_X5_39 ?_
  refine x_aload_n (x_at tdX5_takeOver 59 rfl) rfl rfl ?_
  refine gfC_2_12 (x_at tdX5_takeOver 60 rfl) wf_X5_39 ?_
  refine x_cSv (as := [.ref (x_ad (gC h) 31), .ref (x_ad (gC h) 12)]) (rest := []) mi_X5_copy (x_at tdX5_takeOver 61 rfl) wm_X5_81 rfl (Nat.le_of_ble_eq_true rfl) rfl H (fun S10 H => ?_)
  refine x_aload_n (x_at tdX5_takeOver 62 rfl) rfl rfl ?_
  refine gfC_21_13 (x_at tdX5_takeOver 63 rfl) wf_X5_42 ?_
  refine x_aload_n (x_at tdX5_takeOver 64 rfl) rfl rfl ?_
  refine gfC_2_13 (x_at tdX5_takeOver 65 rfl) wf_X5_42 ?_
  refine x_cSv (as := [.ref (x_ad (gC h) 32), .ref (x_ad (gC h) 13)]) (rest := []) mi_X5_copy (x_at tdX5_takeOver 66 rfl) wm_X5_81 rfl (Nat.le_of_ble_eq_true rfl) rfl H (fun S11 H => ?_)
  refine x_aload_n (x_at tdX5_takeOver 67 rfl) rfl rfl ?_
  refine x_aload_n (x_at tdX5_takeOver 68 rfl) rfl rfl ?_
  refine gfC_21_14 (x_at tdX5_takeOver 69 rfl) wf_X5_68 ?_
  refine pfC_2_14 (x_at tdX5_takeOver 70 rfl) wf_X5_68 ?_
  refine x_aload_n (x_at tdX5_takeOver 71 rfl) rfl rfl ?_
  refine gfC_21_15 (x_at tdX5_takeOver 72 rfl) wf_X5_45 ?_
  refine x_aload_n (x_at tdX5_takeOver 73 rfl) rfl rfl ?_
  refine gfC_2_15 (x_at tdX5_takeOver 74 rfl) wf_X5_45 ?_
  refine x_cSv (as := [.ref (x_ad (gC h) 33), .ref (x_ad (gC h) 14)]) (rest := []) mi_X5_copy (x_at tdX5_takeOver 75 rfl) wm_X5_81 rfl (Nat.le_of_ble_eq_true rfl) rfl H (fun S12 H => ?_)
  refine x_aload_n (x_at tdX5_takeOver 76 rfl) rfl rfl ?_
  refine gfC_2_16 (x_at tdX5_takeOver 77 rfl) wf_X5_51 ?_
  refine x_aload_n (x_at tdX5_takeOver 78 rfl) rfl rfl ?_
  refine gfC_21_16 (x_at tdX5_takeOver 79 rfl) wf_X5_51 ?_
  refine x_cVv (as := [.ref (x_ad (gC h) 34)]) (rest := []) mi_X10_takeOver vc_10 (lC_15 h) (x_at tdX5_takeOver 80 rfl) wm_X5_85 rfl (Nat.le_of_ble_eq_true rfl) rfl H (fun S13 H => ?_)
  refine x_aload_n (x_at tdX5_takeOver 81 rfl) rfl rfl ?_
  refine x_aload_n (x_at tdX5_takeOver 82 rfl) rfl rfl ?_
  refine gfC_21_17 (x_at tdX5_takeOver 83 rfl) wf_X5_72 ?_
  refine pfC_2_17 (x_at tdX5_takeOver 84 rfl) wf_X5_72 ?_
  refine x_aload_n (x_at tdX5_takeOver 85 rfl) rfl rfl ?_
  refine x_aload_n (x_at tdX5_takeOver 86 rfl) rfl rfl ?_
  refine gfC_21_18 (x_at tdX5_takeOver 87 rfl) wf_X5_75 ?_
  refine x_top (v := (S13.1 21 18)) rfl ?_
  refine pfC_2_18 (x_at tdX5_takeOver 88 rfl) wf_X5_75 ?_
  refine x_aload_n (x_at tdX5_takeOver 89 rfl) rfl rfl ?_
  refine x_aload_n (x_at tdX5_takeOver 90 rfl) rfl rfl ?_
  refine gfC_21_19 (x_at tdX5_takeOver 91 rfl) wf_X5_78 ?_
  refine x_top (v := (S13.1 21 19)) rfl ?_
  refine pfC_2_19 (x_at tdX5_takeOver 92 rfl) wf_X5_78 ?_
  exact x_return rfl (x_at tdX5_takeOver 93 rfl) ⟨rfl, H⟩
end
