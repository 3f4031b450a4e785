section
def layR : List xKind := [.inr (5, [0, 4, 5, 6, 0, 7, 0, 8, 9, 10, 11, 12, 13, 14, 0, 15, 16, 0, 0, 0]), .inl (0, 6), .inl (0, 6), .inl (0, 6), .inl (0, 6), .inl (0, 10), .inl (0, 10), .inl (0, 10), .inl (0, 10), .inl (0, 10), .inl (0, 10), .inl (0, 10), .inl (0, 36), .inr (10, [17, 0, 18, 0]), .inl (0, 300), .inl (0, 32)]
abbrev gR (h : xH) : xG := (h.1, h.2.1, h.2.2.1, h.2.2.2.1, layR, h.2.2.2.2)
theorem lR_0 (h : xH) : (gR h).2.2.2.2.1[0]? = some (.inr (5, [0, 4, 5, 6, 0, 7, 0, 8, 9, 10, 11, 12, 13, 14, 0, 15, 16, 0, 0, 0])) := rfl
theorem lR_12 (h : xH) : (gR h).2.2.2.2.1[12]? = some (.inl (0, 36)) := rfl
theorem lR_13 (h : xH) : (gR h).2.2.2.2.1[13]? = some (.inr (10, [17, 0, 18, 0])) := rfl
theorem gfR_0_15 {h : xH} {d : Nat} {Y : xY} {pc ix : Nat} {lv : List (Nat × Value)} {st : List Value} {S : xSt} {K : Option Value → xSt → Prop} (hd : decode Y.2.1 pc = .ok (.getfield ix, 3)) (hw : Cond.fieldLink Y.1.cls ix "OathButtons$Regiment" "worth" "[I" ∈ x_TT) (H : X (gR h) d Y (pc + 3) lv (.ref (x_ad (gR h) 12) :: st) S K) : X (gR h) d Y pc lv (.ref (x_ad (gR h) 0) :: st) S K := x_getR xc_5 (lR_0 h) (k := 15) rfl (by decide) hd hw H
theorem gfR_0_16 {h : xH} {d : Nat} {Y : xY} {pc ix : Nat} {lv : List (Nat × Value)} {st : List Value} {S : xSt} {K : Option Value → xSt → Prop} (hd : decode Y.2.1 pc = .ok (.getfield ix, 3)) (hw : Cond.fieldLink Y.1.cls ix "OathButtons$Regiment" "wear" "LOathButtons$Wear;" ∈ x_TT) (H : X (gR h) d Y (pc + 3) lv (.ref (x_ad (gR h) 13) :: st) S K) : X (gR h) d Y pc lv (.ref (x_ad (gR h) 0) :: st) S K := x_getR xc_5 (lR_0 h) (k := 16) rfl (by decide) hd hw H
theorem pfR_0_0 {h : xH} {d : Nat} {Y : xY} {pc ix : Nat} {lv : List (Nat × Value)} {st : List Value} {S : xSt} {K : Option Value → xSt → Prop} {v : Int32} (hd : decode Y.2.1 pc = .ok (.putfield ix, 3)) (hw : Cond.fieldLink Y.1.cls ix "OathButtons$Regiment" "men" "I" ∈ x_TT) (H : X (gR h) d Y (pc + 3) lv st (x_putI S 0 0 v) K) : X (gR h) d Y pc lv (.int v :: .ref (x_ad (gR h) 0) :: st) S K := x_pfI xc_5 (lR_0 h) (k := 0) rfl (by decide) rfl rfl rfl hd hw H
theorem pfR_0_14 {h : xH} {d : Nat} {Y : xY} {pc ix : Nat} {lv : List (Nat × Value)} {st : List Value} {S : xSt} {K : Option Value → xSt → Prop} {v : Int32} (hd : decode Y.2.1 pc = .ok (.putfield ix, 3)) (hw : Cond.fieldLink Y.1.cls ix "OathButtons$Regiment" "friends" "I" ∈ x_TT) (H : X (gR h) d Y (pc + 3) lv st (x_putI S 0 14 v) K) : X (gR h) d Y pc lv (.int v :: .ref (x_ad (gR h) 0) :: st) S K := x_pfI xc_5 (lR_0 h) (k := 14) rfl (by decide) rfl rfl rfl hd hw H
theorem pfR_0_17 {h : xH} {d : Nat} {Y : xY} {pc ix : Nat} {lv : List (Nat × Value)} {st : List Value} {S : xSt} {K : Option Value → xSt → Prop} {v : Int32} (hd : decode Y.2.1 pc = .ok (.putfield ix, 3)) (hw : Cond.fieldLink Y.1.cls ix "OathButtons$Regiment" "hoursOfDay" "I" ∈ x_TT) (H : X (gR h) d Y (pc + 3) lv st (x_putI S 0 17 v) K) : X (gR h) d Y pc lv (.int v :: .ref (x_ad (gR h) 0) :: st) S K := x_pfI xc_5 (lR_0 h) (k := 17) rfl (by decide) rfl rfl rfl hd hw H
theorem pfR_0_18 {h : xH} {d : Nat} {Y : xY} {pc ix : Nat} {lv : List (Nat × Value)} {st : List Value} {S : xSt} {K : Option Value → xSt → Prop} {v : Int32} (hd : decode Y.2.1 pc = .ok (.putfield ix, 3)) (hw : Cond.fieldLink Y.1.cls ix "OathButtons$Regiment" "storm" "I" ∈ x_TT) (H : X (gR h) d Y (pc + 3) lv st (x_putI S 0 18 v) K) : X (gR h) d Y pc lv (.int v :: .ref (x_ad (gR h) 0) :: st) S K := x_pfI xc_5 (lR_0 h) (k := 18) rfl (by decide) rfl rfl rfl hd hw H
theorem pfR_0_19 {h : xH} {d : Nat} {Y : xY} {pc ix : Nat} {lv : List (Nat × Value)} {st : List Value} {S : xSt} {K : Option Value → xSt → Prop} {v : Int32} (hd : decode Y.2.1 pc = .ok (.putfield ix, 3)) (hw : Cond.fieldLink Y.1.cls ix "OathButtons$Regiment" "draw" "I" ∈ x_TT) (H : X (gR h) d Y (pc + 3) lv st (x_putI S 0 19 v) K) : X (gR h) d Y pc lv (.int v :: .ref (x_ad (gR h) 0) :: st) S K := x_pfI xc_5 (lR_0 h) (k := 19) rfl (by decide) rfl rfl rfl hd hw H
theorem pfR_0_4 {h : xH} {d : Nat} {Y : xY} {pc ix : Nat} {lv : List (Nat × Value)} {st : List Value} {S : xSt} {K : Option Value → xSt → Prop} {v : Int32} (hd : decode Y.2.1 pc = .ok (.putfield ix, 3)) (hw : Cond.fieldLink Y.1.cls ix "OathButtons$Regiment" "deeds" "I" ∈ x_TT) (H : X (gR h) d Y (pc + 3) lv st (x_putI S 0 4 v) K) : X (gR h) d Y pc lv (.int v :: .ref (x_ad (gR h) 0) :: st) S K := x_pfI xc_5 (lR_0 h) (k := 4) rfl (by decide) rfl rfl rfl hd hw H
theorem pfR_0_6 {h : xH} {d : Nat} {Y : xY} {pc ix : Nat} {lv : List (Nat × Value)} {st : List Value} {S : xSt} {K : Option Value → xSt → Prop} {v : Int32} (hd : decode Y.2.1 pc = .ok (.putfield ix, 3)) (hw : Cond.fieldLink Y.1.cls ix "OathButtons$Regiment" "buttons" "I" ∈ x_TT) (H : X (gR h) d Y (pc + 3) lv st (x_putI S 0 6 v) K) : X (gR h) d Y pc lv (.int v :: .ref (x_ad (gR h) 0) :: st) S K := x_pfI xc_5 (lR_0 h) (k := 6) rfl (by decide) rfl rfl rfl hd hw H
theorem pfR_13_1 {h : xH} {d : Nat} {Y : xY} {pc ix : Nat} {lv : List (Nat × Value)} {st : List Value} {S : xSt} {K : Option Value → xSt → Prop} {v : Int32} (hd : decode Y.2.1 pc = .ok (.putfield ix, 3)) (hw : Cond.fieldLink Y.1.cls ix "OathButtons$Wear" "length" "I" ∈ x_TT) (H : X (gR h) d Y (pc + 3) lv st (x_putI S 13 1 v) K) : X (gR h) d Y pc lv (.int v :: .ref (x_ad (gR h) 13) :: st) S K := x_pfI xc_10 (lR_13 h) (k := 1) rfl (by decide) rfl rfl rfl hd hw H
theorem pfR_13_3 {h : xH} {d : Nat} {Y : xY} {pc ix : Nat} {lv : List (Nat × Value)} {st : List Value} {S : xSt} {K : Option Value → xSt → Prop} {v : Int32} (hd : decode Y.2.1 pc = .ok (.putfield ix, 3)) (hw : Cond.fieldLink Y.1.cls ix "OathButtons$Wear" "units" "I" ∈ x_TT) (H : X (gR h) d Y (pc + 3) lv st (x_putI S 13 3 v) K) : X (gR h) d Y pc lv (.int v :: .ref (x_ad (gR h) 13) :: st) S K := x_pfI xc_10 (lR_13 h) (k := 3) rfl (by decide) rfl rfl rfl hd hw H
def M_Wr_empty_13 (h : xH) (d : Nat) (S : xSt) (K : xSt → Prop) : Prop := E (gR h) d mYX10_empty [.ref (x_ad (gR h) 13)] S (kV K)
def M_Rg_empty_0 (h : xH) (d : Nat) (S : xSt) (K : xSt → Prop) : Prop := E (gR h) (d + 1) mYX5_empty [.ref (x_ad (gR h) 0)] S (kV K)
def B_Rg_empty_0_22 (h : xH) (d : Nat) (x1 : Int32) (S : xSt) (K : xSt → Prop) : Prop := X (gR h) (d + 1) mYX5_empty 22 [(0, .ref (x_ad (gR h) 0)), (1, .int x1)] [] S (kV K)
theorem e_Wr_empty_13 {h : xH} {d : Nat}  {S : xSt} {K : xSt → Prop}  (H : K (x_putI (x_putI S 13 1 0) 13 3 0)) : M_Wr_empty_13 h d S K := by
  refine x_enter pn_X10 (Nat.le_of_ble_eq_true rfl) ?_
  show X (gR h) _ _ 0 [(0, .ref (x_ad (gR h) 13))] [] S _
  refine x_aload_n (x_at tdX10_empty 0 rfl) rfl rfl ?_
  refine x_iconst (x_at tdX10_empty 1 rfl) k_c_0 ?_
  refine pfR_13_1 (x_at tdX10_empty 2 rfl) wf_X10_18 ?_
  refine x_aload_n (x_at tdX10_empty 3 rfl) rfl rfl ?_
  refine x_iconst (x_at tdX10_empty 4 rfl) k_c_0 ?_
  refine pfR_13_3 (x_at tdX10_empty 5 rfl) wf_X10_22 ?_
  exact x_return rfl (x_at tdX10_empty 6 rfl) ⟨rfl, H⟩
theorem e_Rg_empty_0 {h : xH} {d : Nat}  {S : xSt} {K : xSt → Prop}  (H : B_Rg_empty_0_22 h d 0 (x_putI (x_putI (x_putI (x_putI S 0 0 0) 0 4 0) 0 6 0) 0 14 0) K) : M_Rg_empty_0 h d S K := by
  refine x_enter pn_X5 (Nat.le_of_ble_eq_true rfl) ?_
  show X (gR h) _ _ 0 [(0, .ref (x_ad (gR h) 0))] [] S _
  refine x_aload_n (x_at tdX5_empty 0 rfl) rfl rfl ?_
  refine x_iconst (x_at tdX5_empty 1 rfl) k_c_0 ?_
  refine pfR_0_0 (x_at tdX5_empty 2 rfl) wf_X5_58 ?_
  refine x_aload_n (x_at tdX5_empty 3 rfl) rfl rfl ?_
  refine x_iconst (x_at tdX5_empty 4 rfl) k_c_0 ?_
  refine pfR_0_4 (x_at tdX5_empty 5 rfl) wf_X5_62 ?_
  refine x_aload_n (x_at tdX5_empty 6 rfl) rfl rfl ?_
  refine x_iconst (x_at tdX5_empty 7 rfl) k_c_0 ?_
  refine pfR_0_6 (x_at tdX5_empty 8 rfl) wf_X5_65 ?_
  refine x_aload_n (x_at tdX5_empty 9 rfl) rfl rfl ?_
  refine x_iconst (x_at tdX5_empty 10 rfl) k_c_0 ?_
  refine pfR_0_14 (x_at tdX5_empty 11 rfl) wf_X5_68 ?_
  refine x_iconst (x_at tdX5_empty 12 rfl) k_c_0 ?_
  refine x_istore_n (x_at tdX5_empty 13 rfl) rfl (by decide) ?_
  refine x_weak (lv' := [(0, .ref (x_ad (gR h) 0)), (1, .int 0)]) ⟨rfl, rfl, trivial⟩ ?_
  exact H
theorem b_Rg_empty_0_22 {h : xH} {d : Nat}  {x1 : Int32} {S : xSt} {K : xSt → Prop}  (H : ((36 ≤ x1 → M_Wr_empty_13 h d S (fun (S1 : xSt) => K (x_putI (x_putI (x_putI S1 0 17 8) 0 18 0) 0 19 0))) ∧ (¬ 36 ≤ x1 → (vp_in x1 36 ∧ B_Rg_empty_0_22 h d (x1 + 1) (x_putI S 12 (x1 : Int32).toNatClampNeg (-100)) K)))) : B_Rg_empty_0_22 h d x1 S K := by
  unfold B_Rg_empty_0_22
  refine x_iload_n (x_at tdX5_empty 14 rfl) rfl rfl ?_
  refine x_aload_n (x_at tdX5_empty 15 rfl) rfl rfl ?_
  refine gfR_0_15 (x_at tdX5_empty 16 rfl) wf_X5_45 ?_
  refine x_alen (by decide) (lR_12 h) (x_at tdX5_empty 17 rfl) ?_
  refine x_top (v := 36) (by decide) ?_
  refine x_ic_ge 45 (x_at tdX5_empty 18 rfl) rfl (fun c => ?_) (fun c => ?_)
  · have H := H.1 c
    refine x_aload_n (x_at tdX5_empty 26 rfl) rfl rfl ?_
    refine gfR_0_16 (x_at tdX5_empty 27 rfl) wf_X5_51 ?_
    refine x_cVv (as := []) (rest := []) mi_X10_empty vc_10 (lR_13 h) (x_at tdX5_empty 28 rfl) wm_X5_71 rfl (Nat.le_of_ble_eq_true rfl) rfl H (fun S1 H => ?_)
    refine x_aload_n (x_at tdX5_empty 29 rfl) rfl rfl ?_
    refine x_bipush (x_at tdX5_empty 30 rfl) k_b_8 ?_
    refine pfR_0_17 (x_at tdX5_empty 31 rfl) wf_X5_72 ?_
    refine x_aload_n (x_at tdX5_empty 32 rfl) rfl rfl ?_
    refine x_iconst (x_at tdX5_empty 33 rfl) k_c_0 ?_
    refine pfR_0_18 (x_at tdX5_empty 34 rfl) wf_X5_75 ?_
    refine x_aload_n (x_at tdX5_empty 35 rfl) rfl rfl ?_
    refine x_iconst (x_at tdX5_empty 36 rfl) k_c_0 ?_
    refine pfR_0_19 (x_at tdX5_empty 37 rfl) wf_X5_78 ?_
    exact x_return rfl (x_at tdX5_empty 38 rfl) ⟨rfl, H⟩
  · have H := H.2 c
    refine x_aload_n (x_at tdX5_empty 19 rfl) rfl rfl ?_
    refine gfR_0_15 (x_at tdX5_empty 20 rfl) wf_X5_45 ?_
    refine x_iload_n (x_at tdX5_empty 21 rfl) rfl rfl ?_
    refine x_bipush (x_at tdX5_empty 22 rfl) k_b_m100 ?_
    refine x_iast (lR_12 h) (x_at tdX5_empty 23 rfl) H.1 ?_
    have H := H.2
    refine x_iinc (x_at tdX5_empty 24 rfl) rfl (k_inc_1 _) (by decide) ?_
    refine x_goto 22 (x_at tdX5_empty 25 rfl) rfl ?_
    refine x_weak (lv' := [(0, .ref (x_ad (gR h) 0)), (1, .int (x1 + 1))]) ⟨rfl, rfl, trivial⟩ ?_
    exact H
end
