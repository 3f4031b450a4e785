section
def bi (p : Prop) [Decidable p] : Int32 := if p then 1 else 0
theorem bi_pos {p : Prop} [Decidable p] (h : p) : bi p = 1 := if_pos h
theorem bi_neg {p : Prop} [Decidable p] (h : ¬ p) : bi p = 0 := if_neg h
theorem bi_e0 {p : Prop} [Decidable p] : bi p = 0 ↔ ¬ p := by unfold bi; by_cases h : p <;> simp [h]
theorem bi_n0 {p : Prop} [Decidable p] : ¬ bi p = 0 ↔ p := by unfold bi; by_cases h : p <;> simp [h]
theorem bi_e1 {p : Prop} [Decidable p] : bi p = 1 ↔ p := by unfold bi; by_cases h : p <;> simp [h]
theorem bi_n1 {p : Prop} [Decidable p] : ¬ bi p = 1 ↔ ¬ p := by unfold bi; by_cases h : p <;> simp [h]
theorem zb_bi {p : Prop} [Decidable p] : zb (bi p) := by
  by_cases h : p
  · rw [bi_pos h]; exact zb1
  · rw [bi_neg h]; exact zb0
theorem m_Tk_isSign {h : xH} {d : Nat} {x1 : Int32} {S : xSt} {K : Int32 → xSt → Prop}  (H : K (bi (((S.1 19 4) = 5 ∧ (S.1 19 5) = x1))) S) : M_Tk_isSign h d x1 S K := by
  refine e_Tk_isSign ?_
  refine ⟨fun c => ?_, fun c => ?_⟩
  · have c1 := c
    rw [bi_neg (fun z => c1 z.1)] at H
    exact H
  · have c2 := c
    refine ⟨fun c => ?_, fun c => ?_⟩
    · have c3 := c
      rw [bi_neg (fun z => (c3) z.2)] at H
      exact H
    · have c4 := c
      rw [bi_pos (⟨c2, c4⟩)] at H
      exact H
theorem m_Fr_isTermSign {h : xH} {d : Nat}  {S : xSt} {K : Int32 → xSt → Prop}  (H : K (bi ((((S.1 19 4) = 5 ∧ (S.1 19 5) = 42) ∨ (((S.1 19 4) = 5 ∧ (S.1 19 5) = 47) ∨ ((S.1 19 4) = 5 ∧ (S.1 19 5) = 37))))) S) : M_Fr_isTermSign h d S K := by
  refine e_Fr_isTermSign ?_
  refine m_Tk_isSign  ?_
  refine ⟨fun c => ?_, fun c => ?_⟩
  · have c1 := bi_n0.mp c
    rw [bi_pos (Or.inl c1)] at H
    exact H
  · have c2 := bi_e0.mp c
    refine m_Tk_isSign  ?_
    refine ⟨fun c => ?_, fun c => ?_⟩
    · have c3 := bi_n0.mp c
      rw [bi_pos (Or.inr (Or.inl c3))] at H
      exact H
    · have c4 := bi_e0.mp c
      refine m_Tk_isSign  ?_
      refine ⟨fun c => ?_, fun c => ?_⟩
      · have c5 := bi_e0.mp c
        rw [bi_neg (fun z => z.elim c2 (fun z => z.elim c4 (c5)))] at H
        exact H
      · have c6 := bi_n0.mp c
        rw [bi_pos (Or.inr (Or.inr (c6)))] at H
        exact H
theorem m_Tk_isWord {h : xH} {d : Nat} {x1 : Int32} {S : xSt} {K : Int32 → xSt → Prop}  (H : K (bi (((S.1 19 4) = 3 ∧ (S.1 19 5) = x1))) S) : M_Tk_isWord h d x1 S K := by
  refine e_Tk_isWord ?_
  refine ⟨fun c => ?_, fun c => ?_⟩
  · have c1 := c
    rw [bi_neg (fun z => c1 z.1)] at H
    exact H
  · have c2 := c
    refine ⟨fun c => ?_, fun c => ?_⟩
    · have c3 := c
      rw [bi_neg (fun z => (c3) z.2)] at H
      exact H
    · have c4 := c
      rw [bi_pos (⟨c2, c4⟩)] at H
      exact H
theorem m_Rg_worthOf_21 {h : xH} {d : Nat} {x1 : Int32} {x2 : Int32} {S : xSt} {K : Int32 → xSt → Prop} (h0 : vp_in ((x1 * (6 : Int32)) + x2) 36) (H : K (S.1 33 (((x1 * (6 : Int32)) + x2) : Int32).toNatClampNeg) S) : M_Rg_worthOf_21 h d x1 x2 S K := by
  refine e_Rg_worthOf_21 ?_
  refine ⟨h0, ?_⟩
  exact H
theorem m_O_fault {h : xH} {d : Nat} {x1 : Int32} {S : xSt} {K : Int32 → xSt → Prop}  (H : K (if x1 = 0 then (S.1 0 12) else (if x1 = 1 then (S.1 0 13) else (-1))) S) : M_O_fault h d x1 S K := by
  refine e_O_fault ?_
  refine ⟨fun c => ?_, fun c => ?_⟩
  · have c1 := c
    rw [if_neg c1] at H
    refine ⟨fun c => ?_, fun c => ?_⟩
    · have c2 := c
      rw [if_neg c2] at H
      exact H
    · have c3 := c
      rw [if_pos c3] at H
      exact H
  · have c4 := c
    rw [if_pos c4] at H
    exact H
theorem m_Co_stateOf {h : xH} {d : Nat} {x1 : Int32} {S : xSt} {K : Int32 → xSt → Prop} (h0 : vp_in x1 23) (H : K (S.1 42 (x1 : Int32).toNatClampNeg) S) : M_Co_stateOf h d x1 S K := by
  refine e_Co_stateOf ?_
  refine ⟨h0, ?_⟩
  exact H
theorem m_Co_threadOf {h : xH} {d : Nat} {x1 : Int32} {S : xSt} {K : Int32 → xSt → Prop} (h0 : vp_in ((10 : Int32) + x1) 23) (H : K (S.1 42 (((10 : Int32) + x1) : Int32).toNatClampNeg) S) : M_Co_threadOf h d x1 S K := by
  refine e_Co_threadOf ?_
  refine ⟨h0, ?_⟩
  exact H
theorem m_Rg_hasButton_2 {h : xH} {d : Nat} {x1 : Int32} {S : xSt} {K : Int32 → xSt → Prop}  (H : K (bi ((¬ (x1 < 0) ∧ ¬ (S.1 2 6) ≤ x1))) S) : M_Rg_hasButton_2 h d x1 S K := by
  refine e_Rg_hasButton_2 ?_
  refine ⟨fun c => ?_, fun c => ?_⟩
  · have c1 := c
    rw [bi_neg (fun z => z.1 c1)] at H
    exact H
  · have c2 := c
    refine ⟨fun c => ?_, fun c => ?_⟩
    · have c3 := c
      rw [bi_neg (fun z => (fun z => z c3) z.2)] at H
      exact H
    · have c4 := c
      rw [bi_pos (⟨c2, c4⟩)] at H
      exact H
theorem m_Rg_hasMan_2 {h : xH} {d : Nat} {x1 : Int32} {S : xSt} {K : Int32 → xSt → Prop}  (H : K (bi ((¬ (x1 < 0) ∧ ¬ (S.1 2 0) ≤ x1))) S) : M_Rg_hasMan_2 h d x1 S K := by
  refine e_Rg_hasMan_2 ?_
  refine ⟨fun c => ?_, fun c => ?_⟩
  · have c1 := c
    rw [bi_neg (fun z => z.1 c1)] at H
    exact H
  · have c2 := c
    refine ⟨fun c => ?_, fun c => ?_⟩
    · have c3 := c
      rw [bi_neg (fun z => (fun z => z c3) z.2)] at H
      exact H
    · have c4 := c
      rw [bi_pos (⟨c2, c4⟩)] at H
      exact H
theorem m_Co_isOn {h : xH} {d : Nat} {x1 : Int32} {S : xSt} {K : Int32 → xSt → Prop} (h0 : vp_in x1 23) (H : K (bi ((S.1 42 (x1 : Int32).toNatClampNeg) = 0)) S) : M_Co_isOn h d x1 S K := by
  refine e_Co_isOn ?_
  refine ⟨h0, ?_⟩
  refine ⟨fun c => ?_, fun c => ?_⟩
  · have c1 := c
    rw [bi_neg (c1)] at H
    exact H
  · have c2 := c
    rw [bi_pos (c2)] at H
    exact H
theorem m_Rg_hasDeed_2 {h : xH} {d : Nat} {x1 : Int32} {S : xSt} {K : Int32 → xSt → Prop}  (H : K (bi ((¬ (x1 < 0) ∧ ¬ (S.1 2 4) ≤ x1))) S) : M_Rg_hasDeed_2 h d x1 S K := by
  refine e_Rg_hasDeed_2 ?_
  refine ⟨fun c => ?_, fun c => ?_⟩
  · have c1 := c
    rw [bi_neg (fun z => z.1 c1)] at H
    exact H
  · have c2 := c
    refine ⟨fun c => ?_, fun c => ?_⟩
    · have c3 := c
      rw [bi_neg (fun z => (fun z => z c3) z.2)] at H
      exact H
    · have c4 := c
      rw [bi_pos (⟨c2, c4⟩)] at H
      exact H
theorem m_Co_isOnMan {h : xH} {d : Nat} {x1 : Int32} {x2 : Int32} {S : xSt} {K : Int32 → xSt → Prop} (h0 : vp_in x1 23) (h1 : (S.1 42 (x1 : Int32).toNatClampNeg) = 0 → vp_in x1 10) (H : K (bi (((S.1 42 (x1 : Int32).toNatClampNeg) = 0 ∧ (S.1 7 (x1 : Int32).toNatClampNeg) = x2))) S) : M_Co_isOnMan h d x1 x2 S K := by
  refine e_Co_isOnMan ?_
  refine ⟨h0, ?_⟩
  refine ⟨fun c => ?_, fun c => ?_⟩
  · have c1 := c
    rw [bi_neg (fun z => c1 z.1)] at H
    exact H
  · have c2 := c
    refine ⟨(h1 c2), ?_⟩
    refine ⟨fun c => ?_, fun c => ?_⟩
    · have c3 := c
      rw [bi_neg (fun z => (c3) z.2)] at H
      exact H
    · have c4 := c
      rw [bi_pos (⟨c2, c4⟩)] at H
      exact H
theorem m_Co_waits {h : xH} {d : Nat} {x1 : Int32} {S : xSt} {K : Int32 → xSt → Prop} (h0 : vp_in x1 10) (h1 : (¬ ((S.1 13 (x1 : Int32).toNatClampNeg) < 0) ∧ ¬ (S.1 2 6) ≤ (S.1 13 (x1 : Int32).toNatClampNeg)) → vp_in (S.1 13 (x1 : Int32).toNatClampNeg) 23) (H : K (bi (((¬ ((S.1 13 (x1 : Int32).toNatClampNeg) < 0) ∧ ¬ (S.1 2 6) ≤ (S.1 13 (x1 : Int32).toNatClampNeg)) ∧ (S.1 42 ((S.1 13 (x1 : Int32).toNatClampNeg) : Int32).toNatClampNeg) = 0))) S) : M_Co_waits h d x1 S K := by
  refine e_Co_waits ?_
  refine ⟨h0, ?_⟩
  refine m_Rg_hasButton_2  ?_
  refine ⟨fun c => ?_, fun c => ?_⟩
  · have c1 := bi_e0.mp c
    rw [bi_neg (fun z => c1 z.1)] at H
    exact H
  · have c2 := bi_n0.mp c
    refine m_Co_isOn (h1 c2) ?_
    refine ⟨fun c => ?_, fun c => ?_⟩
    · have c3 := bi_e0.mp c
      rw [bi_neg (fun z => (c3) z.2)] at H
      exact H
    · have c4 := bi_n0.mp c
      rw [bi_pos (⟨c2, c4⟩)] at H
      exact H
theorem m_O_isButtonOn {h : xH} {d : Nat} {x1 : Int32} {S : xSt} {K : Int32 → xSt → Prop} (h0 : (¬ (x1 < 0) ∧ ¬ (S.1 2 6) ≤ x1) → vp_in x1 23) (H : K (bi (((¬ (x1 < 0) ∧ ¬ (S.1 2 6) ≤ x1) ∧ (S.1 42 (x1 : Int32).toNatClampNeg) = 0))) S) : M_O_isButtonOn h d x1 S K := by
  refine e_O_isButtonOn ?_
  refine m_Rg_hasButton_2  ?_
  refine ⟨fun c => ?_, fun c => ?_⟩
  · have c1 := bi_e0.mp c
    rw [bi_neg (fun z => c1 z.1)] at H
    exact H
  · have c2 := bi_n0.mp c
    refine m_Co_isOn (h0 c2) ?_
    refine ⟨fun c => ?_, fun c => ?_⟩
    · have c3 := bi_e0.mp c
      rw [bi_neg (fun z => (c3) z.2)] at H
      exact H
    · have c4 := bi_n0.mp c
      rw [bi_pos (⟨c2, c4⟩)] at H
      exact H
theorem m_Co_cuts {h : xH} {d : Nat}  {S : xSt} {K : Int32 → xSt → Prop}  (H : K (S.1 42 22) S) : M_Co_cuts h d S K := by
  refine e_Co_cuts ?_
  exact H
theorem m_Co_nextSeed {h : xH} {d : Nat} {x0 : Int32} {S : xSt} {K : Int32 → xSt → Prop}  (H : K (((x0 * (137 : Int32)) + (71 : Int32)) - ((x0 * (137 : Int32)) + (71 : Int32)) / 1000 * 1000) S) : M_Co_nextSeed h d x0 S K := by
  refine e_Co_nextSeed ?_
  exact H
theorem m_Co_seed {h : xH} {d : Nat}  {S : xSt} {K : Int32 → xSt → Prop}  (H : K (S.1 42 21) S) : M_Co_seed h d S K := by
  refine e_Co_seed ?_
  exact H
theorem m_Co_stateAfterWear {h : xH} {d : Nat} {x1 : Int32} {x2 : Int32} {x3 : Int32} {S : xSt} {K : Int32 → xSt → Prop} (h0 : 0 < x2 → vp_in x1 10) (h1 : 0 < x2 → (S.1 11 (x1 : Int32).toNatClampNeg) < x3 → vp_in x1 10) (H : K (if 0 < x2 then (if (S.1 11 (x1 : Int32).toNatClampNeg) < x3 then (if (S.1 10 (x1 : Int32).toNatClampNeg) = 1 then 3 else 1) else 0) else 4) S) : M_Co_stateAfterWear h d x1 x2 x3 S K := by
  refine e_Co_stateAfterWear ?_
  refine ⟨fun c => ?_, fun c => ?_⟩
  · have c1 := c
    rw [if_pos c1] at H
    refine ⟨(h0 c1), ?_⟩
    refine ⟨fun c => ?_, fun c => ?_⟩
    · have c2 := c
      rw [if_pos c2] at H
      refine ⟨(h1 c1 c2), ?_⟩
      refine ⟨fun c => ?_, fun c => ?_⟩
      · have c3 := c
        rw [if_neg c3] at H
        exact H
      · have c4 := c
        rw [if_pos c4] at H
        exact H
    · have c5 := c
      rw [if_neg c5] at H
      exact H
  · have c6 := c
    rw [if_neg c6] at H
    exact H
theorem m_Co_stormBy {h : xH} {d : Nat} {x1 : Int32} {S : xSt} {K : Int32 → xSt → Prop}  (H : K (if (S.1 2 18) ≤ (x1 - x1 / 100 * 100) then 0 else 1) S) : M_Co_stormBy h d x1 S K := by
  refine e_Co_stormBy ?_
  refine ⟨fun c => ?_, fun c => ?_⟩
  · have c1 := c
    rw [if_pos c1] at H
    exact H
  · have c2 := c
    rw [if_neg c2] at H
    exact H
theorem m_Co_today {h : xH} {d : Nat}  {S : xSt} {K : Int32 → xSt → Prop}  (H : K (S.1 42 20) S) : M_Co_today h d S K := by
  refine e_Co_today ?_
  exact H
theorem m_Wr_truth {h : xH} {d : Nat} {x0 : Int32} {S : xSt} {K : Int32 → xSt → Prop}  (H : K (if x0 = 0 then 0 else 1) S) : M_Wr_truth h d x0 S K := by
  refine e_Wr_truth ?_
  refine ⟨fun c => ?_, fun c => ?_⟩
  · have c1 := c
    rw [if_pos c1] at H
    exact H
  · have c2 := c
    rw [if_neg c2] at H
    exact H
theorem m_Jint_bitCount_0f7a4 {h : xH} {d : Nat} {x0 : Int32} {S : xSt} {K : Int32 → xSt → Prop}  (H : K ((((((((x0 - (((x0 : Int32).toUInt32 >>> ((1 : Int32).toUInt32 &&& Int32.toUInt32 31)).toInt32 &&& (1431655765 : Int32))) &&& (858993459 : Int32)) + ((((x0 - (((x0 : Int32).toUInt32 >>> ((1 : Int32).toUInt32 &&& Int32.toUInt32 31)).toInt32 &&& (1431655765 : Int32))) : Int32).toUInt32 >>> ((2 : Int32).toUInt32 &&& Int32.toUInt32 31)).toInt32 &&& (858993459 : Int32))) + (((((x0 - (((x0 : Int32).toUInt32 >>> ((1 : Int32).toUInt32 &&& Int32.toUInt32 31)).toInt32 &&& (1431655765 : Int32))) &&& (858993459 : Int32)) + ((((x0 - (((x0 : Int32).toUInt32 >>> ((1 : Int32).toUInt32 &&& Int32.toUInt32 31)).toInt32 &&& (1431655765 : Int32))) : Int32).toUInt32 >>> ((2 : Int32).toUInt32 &&& Int32.toUInt32 31)).toInt32 &&& (858993459 : Int32))) : Int32).toUInt32 >>> ((4 : Int32).toUInt32 &&& Int32.toUInt32 31)).toInt32) &&& (252645135 : Int32)) + (((((((x0 - (((x0 : Int32).toUInt32 >>> ((1 : Int32).toUInt32 &&& Int32.toUInt32 31)).toInt32 &&& (1431655765 : Int32))) &&& (858993459 : Int32)) + ((((x0 - (((x0 : Int32).toUInt32 >>> ((1 : Int32).toUInt32 &&& Int32.toUInt32 31)).toInt32 &&& (1431655765 : Int32))) : Int32).toUInt32 >>> ((2 : Int32).toUInt32 &&& Int32.toUInt32 31)).toInt32 &&& (858993459 : Int32))) + (((((x0 - (((x0 : Int32).toUInt32 >>> ((1 : Int32).toUInt32 &&& Int32.toUInt32 31)).toInt32 &&& (1431655765 : Int32))) &&& (858993459 : Int32)) + ((((x0 - (((x0 : Int32).toUInt32 >>> ((1 : Int32).toUInt32 &&& Int32.toUInt32 31)).toInt32 &&& (1431655765 : Int32))) : Int32).toUInt32 >>> ((2 : Int32).toUInt32 &&& Int32.toUInt32 31)).toInt32 &&& (858993459 : Int32))) : Int32).toUInt32 >>> ((4 : Int32).toUInt32 &&& Int32.toUInt32 31)).toInt32) &&& (252645135 : Int32)) : Int32).toUInt32 >>> ((8 : Int32).toUInt32 &&& Int32.toUInt32 31)).toInt32) + ((((((((x0 - (((x0 : Int32).toUInt32 >>> ((1 : Int32).toUInt32 &&& Int32.toUInt32 31)).toInt32 &&& (1431655765 : Int32))) &&& (858993459 : Int32)) + ((((x0 - (((x0 : Int32).toUInt32 >>> ((1 : Int32).toUInt32 &&& Int32.toUInt32 31)).toInt32 &&& (1431655765 : Int32))) : Int32).toUInt32 >>> ((2 : Int32).toUInt32 &&& Int32.toUInt32 31)).toInt32 &&& (858993459 : Int32))) + (((((x0 - (((x0 : Int32).toUInt32 >>> ((1 : Int32).toUInt32 &&& Int32.toUInt32 31)).toInt32 &&& (1431655765 : Int32))) &&& (858993459 : Int32)) + ((((x0 - (((x0 : Int32).toUInt32 >>> ((1 : Int32).toUInt32 &&& Int32.toUInt32 31)).toInt32 &&& (1431655765 : Int32))) : Int32).toUInt32 >>> ((2 : Int32).toUInt32 &&& Int32.toUInt32 31)).toInt32 &&& (858993459 : Int32))) : Int32).toUInt32 >>> ((4 : Int32).toUInt32 &&& Int32.toUInt32 31)).toInt32) &&& (252645135 : Int32)) + (((((((x0 - (((x0 : Int32).toUInt32 >>> ((1 : Int32).toUInt32 &&& Int32.toUInt32 31)).toInt32 &&& (1431655765 : Int32))) &&& (858993459 : Int32)) + ((((x0 - (((x0 : Int32).toUInt32 >>> ((1 : Int32).toUInt32 &&& Int32.toUInt32 31)).toInt32 &&& (1431655765 : Int32))) : Int32).toUInt32 >>> ((2 : Int32).toUInt32 &&& Int32.toUInt32 31)).toInt32 &&& (858993459 : Int32))) + (((((x0 - (((x0 : Int32).toUInt32 >>> ((1 : Int32).toUInt32 &&& Int32.toUInt32 31)).toInt32 &&& (1431655765 : Int32))) &&& (858993459 : Int32)) + ((((x0 - (((x0 : Int32).toUInt32 >>> ((1 : Int32).toUInt32 &&& Int32.toUInt32 31)).toInt32 &&& (1431655765 : Int32))) : Int32).toUInt32 >>> ((2 : Int32).toUInt32 &&& Int32.toUInt32 31)).toInt32 &&& (858993459 : Int32))) : Int32).toUInt32 >>> ((4 : Int32).toUInt32 &&& Int32.toUInt32 31)).toInt32) &&& (252645135 : Int32)) : Int32).toUInt32 >>> ((8 : Int32).toUInt32 &&& Int32.toUInt32 31)).toInt32) : Int32).toUInt32 >>> ((16 : Int32).toUInt32 &&& Int32.toUInt32 31)).toInt32) &&& (63 : Int32)) S) : M_Jint_bitCount_0f7a4 h d x0 S K := by
  refine e_Jint_bitCount_0f7a4 ?_
  exact H
theorem m_Rg_worthOf_2 {h : xH} {d : Nat} {x1 : Int32} {x2 : Int32} {S : xSt} {K : Int32 → xSt → Prop} (h0 : vp_in ((x1 * (6 : Int32)) + x2) 36) (H : K (S.1 14 (((x1 * (6 : Int32)) + x2) : Int32).toNatClampNeg) S) : M_Rg_worthOf_2 h d x1 x2 S K := by
  refine e_Rg_worthOf_2 ?_
  refine ⟨h0, ?_⟩
  exact H
theorem m_Tr_has {h : xH} {d : Nat} {x1 : Int32} {S : xSt} {K : Int32 → xSt → Prop} (h0 : vp_in x1 6) (h1 : (¬ ((S.1 54 (x1 : Int32).toNatClampNeg) < 0) ∧ ¬ (S.1 2 0) ≤ (S.1 54 (x1 : Int32).toNatClampNeg)) → vp_in x1 6) (h2 : (¬ ((S.1 54 (x1 : Int32).toNatClampNeg) < 0) ∧ ¬ (S.1 2 0) ≤ (S.1 54 (x1 : Int32).toNatClampNeg)) → vp_in ((x1 * (6 : Int32)) + (S.1 54 (x1 : Int32).toNatClampNeg)) 36) (H : K (if (¬ ((S.1 54 (x1 : Int32).toNatClampNeg) < 0) ∧ ¬ (S.1 2 0) ≤ (S.1 54 (x1 : Int32).toNatClampNeg)) then (S.1 14 (((x1 * (6 : Int32)) + (S.1 54 (x1 : Int32).toNatClampNeg)) : Int32).toNatClampNeg) else 0) S) : M_Tr_has h d x1 S K := by
  refine e_Tr_has ?_
  refine ⟨h0, ?_⟩
  refine m_Rg_hasMan_2  ?_
  refine ⟨fun c => ?_, fun c => ?_⟩
  · have c1 := bi_e0.mp c
    rw [if_neg c1] at H
    exact H
  · have c2 := bi_n0.mp c
    rw [if_pos c2] at H
    refine ⟨(h1 c2), ?_⟩
    refine m_Rg_worthOf_2 (h2 c2) ?_
    exact H
theorem m_O_likes {h : xH} {d : Nat} {x1 : Int32} {x2 : Int32} {S : xSt} {K : Int32 → xSt → Prop} (h0 : (¬ (x1 < 0) ∧ ¬ (S.1 2 0) ≤ x1) → (¬ (x2 < 0) ∧ ¬ (S.1 2 0) ≤ x2) → vp_in ((x1 * (6 : Int32)) + x2) 36) (H : K (if (¬ (x1 < 0) ∧ ¬ (S.1 2 0) ≤ x1) then (if (¬ (x2 < 0) ∧ ¬ (S.1 2 0) ≤ x2) then (S.1 14 (((x1 * (6 : Int32)) + x2) : Int32).toNatClampNeg) else (-100)) else (-100)) S) : M_O_likes h d x1 x2 S K := by
  refine e_O_likes ?_
  refine m_Rg_hasMan_2  ?_
  refine ⟨fun c => ?_, fun c => ?_⟩
  · have c1 := bi_e0.mp c
    rw [if_neg c1] at H
    exact H
  · have c2 := bi_n0.mp c
    rw [if_pos c2] at H
    refine m_Rg_hasMan_2  ?_
    refine ⟨fun c => ?_, fun c => ?_⟩
    · have c3 := bi_n0.mp c
      rw [if_pos c3] at H
      refine m_Rg_worthOf_2 (h0 c2 c3) ?_
      exact H
    · have c4 := bi_e0.mp c
      rw [if_neg c4] at H
      exact H
theorem m_O_lies {h : xH} {d : Nat} {x1 : Int32} {S : xSt} {K : Int32 → xSt → Prop} (h0 : ¬ (x1 < 0) → ¬ ((S.1 0 11) ≤ x1) → vp_in x1 10) (H : K (if x1 < 0 then (-2) else (if (S.1 0 11) ≤ x1 then (-2) else (S.1 63 (x1 : Int32).toNatClampNeg))) S) : M_O_lies h d x1 S K := by
  refine e_O_lies ?_
  refine ⟨fun c => ?_, fun c => ?_⟩
  · have c1 := c
    rw [if_pos c1] at H
    exact H
  · have c2 := c
    rw [if_neg c2] at H
    refine ⟨fun c => ?_, fun c => ?_⟩
    · have c3 := c
      rw [if_pos c3] at H
      exact H
    · have c4 := c
      rw [if_neg c4] at H
      refine ⟨(h0 c2 c4), ?_⟩
      exact H
theorem m_Rg_traitOf_2 {h : xH} {d : Nat} {x1 : Int32} {x2 : Int32} {S : xSt} {K : Int32 → xSt → Prop} (h0 : ¬ (x2 = 0) → ¬ (x2 = 1) → vp_in x1 6) (h1 : ¬ (x2 = 0) → x2 = 1 → vp_in x1 6) (h2 : x2 = 0 → vp_in x1 6) (H : K (if x2 = 0 then (S.1 3 (x1 : Int32).toNatClampNeg) else (if x2 = 1 then (S.1 4 (x1 : Int32).toNatClampNeg) else (S.1 5 (x1 : Int32).toNatClampNeg))) S) : M_Rg_traitOf_2 h d x1 x2 S K := by
  refine e_Rg_traitOf_2 ?_
  refine ⟨fun c => ?_, fun c => ?_⟩
  · have c1 := c
    rw [if_neg c1] at H
    refine ⟨fun c => ?_, fun c => ?_⟩
    · have c2 := c
      rw [if_neg c2] at H
      refine ⟨(h0 c1 c2), ?_⟩
      exact H
    · have c3 := c
      rw [if_pos c3] at H
      refine ⟨(h1 c1 c3), ?_⟩
      exact H
  · have c4 := c
    rw [if_pos c4] at H
    refine ⟨(h2 c4), ?_⟩
    exact H
theorem m_M_isWord {h : xH} {d : Nat} {x1 : Int64} {S : xSt} {K : Int32 → xSt → Prop}  (H : K (bi (((S.1 0 6) = 1 ∧ (S.2.1 0 9) = x1))) S) : M_M_isWord h d x1 S K := by
  refine e_M_isWord ?_
  refine ⟨fun c => ?_, fun c => ?_⟩
  · have c1 := c
    rw [bi_neg (fun z => c1 z.1)] at H
    exact H
  · have c2 := c
    refine ⟨fun c => ?_, fun c => ?_⟩
    · have c3 := c
      rw [bi_neg (fun z => (c3) z.2)] at H
      exact H
    · have c4 := c
      rw [bi_pos (⟨c2, c4⟩)] at H
      exact H
theorem m_M_isOwn {h : xH} {d : Nat}  {S : xSt} {K : Int32 → xSt → Prop}  (H : K (bi (((S.2.1 0 9) = 7168366 ∨ ((S.2.1 0 9) = 109330211763570 ∨ ((S.2.1 0 9) = 448545973619 ∨ ((S.2.1 0 9) = 1818584692 ∨ ((S.2.1 0 9) = 1684366692 ∨ ((S.2.1 0 9) = 448546566771 ∨ ((S.2.1 0 9) = 108256604483438 ∨ ((S.2.1 0 9) = 28526 ∨ ((S.2.1 0 9) = 25209 ∨ ((S.2.1 0 9) = 1685022067 ∨ ((S.2.1 0 9) = 474148660594 ∨ ((S.2.1 0 9) = 504364296556 ∨ ((S.2.1 0 9) = 127991944667492 ∨ ((S.2.1 0 9) = 418330731890 ∨ ((S.2.1 0 9) = 112641580559972 ∨ ((S.2.1 0 9) = 2003132786 ∨ ((S.2.1 0 9) = 6578553 ∨ ((S.2.1 0 9) = 495874699885 ∨ ((S.2.1 0 9) = 1685217655 ∨ ((S.2.1 0 9) = 6385252 ∨ ((S.2.1 0 9) = 28530 ∨ (S.2.1 0 9) = 7237492))))))))))))))))))))))) S) : M_M_isOwn h d S K := by
  refine e_M_isOwn ?_
  refine ⟨fun c => ?_, fun c => ?_⟩
  · have c1 := c
    rw [bi_pos (Or.inl c1)] at H
    exact H
  · have c2 := c
    refine ⟨fun c => ?_, fun c => ?_⟩
    · have c3 := c
      rw [bi_pos (Or.inr (Or.inl c3))] at H
      exact H
    · have c4 := c
      refine ⟨fun c => ?_, fun c => ?_⟩
      · have c5 := c
        rw [bi_pos (Or.inr (Or.inr (Or.inl c5)))] at H
        exact H
      · have c6 := c
        refine ⟨fun c => ?_, fun c => ?_⟩
        · have c7 := c
          rw [bi_pos (Or.inr (Or.inr (Or.inr (Or.inl c7))))] at H
          exact H
        · have c8 := c
          refine ⟨fun c => ?_, fun c => ?_⟩
          · have c9 := c
            rw [bi_pos (Or.inr (Or.inr (Or.inr (Or.inr (Or.inl c9)))))] at H
            exact H
          · have c10 := c
            refine ⟨fun c => ?_, fun c => ?_⟩
            · have c11 := c
              rw [bi_pos (Or.inr (Or.inr (Or.inr (Or.inr (Or.inr (Or.inl c11))))))] at H
              exact H
            · have c12 := c
              refine ⟨fun c => ?_, fun c => ?_⟩
              · have c13 := c
                rw [bi_pos (Or.inr (Or.inr (Or.inr (Or.inr (Or.inr (Or.inr (Or.inl c13)))))))] at H
                exact H
              · have c14 := c
                refine ⟨fun c => ?_, fun c => ?_⟩
                · have c15 := c
                  rw [bi_pos (Or.inr (Or.inr (Or.inr (Or.inr (Or.inr (Or.inr (Or.inr (Or.inl c15))))))))] at H
                  exact H
                · have c16 := c
                  refine ⟨fun c => ?_, fun c => ?_⟩
                  · have c17 := c
                    rw [bi_pos (Or.inr (Or.inr (Or.inr (Or.inr (Or.inr (Or.inr (Or.inr (Or.inr (Or.inl c17)))))))))] at H
                    exact H
                  · have c18 := c
                    refine ⟨fun c => ?_, fun c => ?_⟩
                    · have c19 := c
                      rw [bi_pos (Or.inr (Or.inr (Or.inr (Or.inr (Or.inr (Or.inr (Or.inr (Or.inr (Or.inr (Or.inl c19))))))))))] at H
                      exact H
                    · have c20 := c
                      refine ⟨fun c => ?_, fun c => ?_⟩
                      · have c21 := c
                        rw [bi_pos (Or.inr (Or.inr (Or.inr (Or.inr (Or.inr (Or.inr (Or.inr (Or.inr (Or.inr (Or.inr (Or.inl c21)))))))))))] at H
                        exact H
                      · have c22 := c
                        refine ⟨fun c => ?_, fun c => ?_⟩
                        · have c23 := c
                          rw [bi_pos (Or.inr (Or.inr (Or.inr (Or.inr (Or.inr (Or.inr (Or.inr (Or.inr (Or.inr (Or.inr (Or.inr (Or.inl c23))))))))))))] at H
                          exact H
                        · have c24 := c
                          refine ⟨fun c => ?_, fun c => ?_⟩
                          · have c25 := c
                            rw [bi_pos (Or.inr (Or.inr (Or.inr (Or.inr (Or.inr (Or.inr (Or.inr (Or.inr (Or.inr (Or.inr (Or.inr (Or.inr (Or.inl c25)))))))))))))] at H
                            exact H
                          · have c26 := c
                            refine ⟨fun c => ?_, fun c => ?_⟩
                            · have c27 := c
                              rw [bi_pos (Or.inr (Or.inr (Or.inr (Or.inr (Or.inr (Or.inr (Or.inr (Or.inr (Or.inr (Or.inr (Or.inr (Or.inr (Or.inr (Or.inl c27))))))))))))))] at H
                              exact H
                            · have c28 := c
                              refine ⟨fun c => ?_, fun c => ?_⟩
                              · have c29 := c
                                rw [bi_pos (Or.inr (Or.inr (Or.inr (Or.inr (Or.inr (Or.inr (Or.inr (Or.inr (Or.inr (Or.inr (Or.inr (Or.inr (Or.inr (Or.inr (Or.inl c29)))))))))))))))] at H
                                exact H
                              · have c30 := c
                                refine ⟨fun c => ?_, fun c => ?_⟩
                                · have c31 := c
                                  rw [bi_pos (Or.inr (Or.inr (Or.inr (Or.inr (Or.inr (Or.inr (Or.inr (Or.inr (Or.inr (Or.inr (Or.inr (Or.inr (Or.inr (Or.inr (Or.inr (Or.inl c31))))))))))))))))] at H
                                  exact H
                                · have c32 := c
                                  refine ⟨fun c => ?_, fun c => ?_⟩
                                  · have c33 := c
                                    rw [bi_pos (Or.inr (Or.inr (Or.inr (Or.inr (Or.inr (Or.inr (Or.inr (Or.inr (Or.inr (Or.inr (Or.inr (Or.inr (Or.inr (Or.inr (Or.inr (Or.inr (Or.inl c33)))))))))))))))))] at H
                                    exact H
                                  · have c34 := c
                                    refine ⟨fun c => ?_, fun c => ?_⟩
                                    · have c35 := c
                                      rw [bi_pos (Or.inr (Or.inr (Or.inr (Or.inr (Or.inr (Or.inr (Or.inr (Or.inr (Or.inr (Or.inr (Or.inr (Or.inr (Or.inr (Or.inr (Or.inr (Or.inr (Or.inr (Or.inl c35))))))))))))))))))] at H
                                      exact H
                                    · have c36 := c
                                      refine ⟨fun c => ?_, fun c => ?_⟩
                                      · have c37 := c
                                        rw [bi_pos (Or.inr (Or.inr (Or.inr (Or.inr (Or.inr (Or.inr (Or.inr (Or.inr (Or.inr (Or.inr (Or.inr (Or.inr (Or.inr (Or.inr (Or.inr (Or.inr (Or.inr (Or.inr (Or.inl c37)))))))))))))))))))] at H
                                        exact H
                                      · have c38 := c
                                        refine ⟨fun c => ?_, fun c => ?_⟩
                                        · have c39 := c
                                          rw [bi_pos (Or.inr (Or.inr (Or.inr (Or.inr (Or.inr (Or.inr (Or.inr (Or.inr (Or.inr (Or.inr (Or.inr (Or.inr (Or.inr (Or.inr (Or.inr (Or.inr (Or.inr (Or.inr (Or.inr (Or.inl c39))))))))))))))))))))] at H
                                          exact H
                                        · have c40 := c
                                          refine ⟨fun c => ?_, fun c => ?_⟩
                                          · have c41 := c
                                            rw [bi_pos (Or.inr (Or.inr (Or.inr (Or.inr (Or.inr (Or.inr (Or.inr (Or.inr (Or.inr (Or.inr (Or.inr (Or.inr (Or.inr (Or.inr (Or.inr (Or.inr (Or.inr (Or.inr (Or.inr (Or.inr (Or.inl c41)))))))))))))))))))))] at H
                                            exact H
                                          · have c42 := c
                                            refine ⟨fun c => ?_, fun c => ?_⟩
                                            · have c43 := c
                                              rw [bi_neg (fun z => z.elim c2 (fun z => z.elim c4 (fun z => z.elim c6 (fun z => z.elim c8 (fun z => z.elim c10 (fun z => z.elim c12 (fun z => z.elim c14 (fun z => z.elim c16 (fun z => z.elim c18 (fun z => z.elim c20 (fun z => z.elim c22 (fun z => z.elim c24 (fun z => z.elim c26 (fun z => z.elim c28 (fun z => z.elim c30 (fun z => z.elim c32 (fun z => z.elim c34 (fun z => z.elim c36 (fun z => z.elim c38 (fun z => z.elim c40 (fun z => z.elim c42 (c43))))))))))))))))))))))] at H
                                              exact H
                                            · have c44 := c
                                              rw [bi_pos (Or.inr (Or.inr (Or.inr (Or.inr (Or.inr (Or.inr (Or.inr (Or.inr (Or.inr (Or.inr (Or.inr (Or.inr (Or.inr (Or.inr (Or.inr (Or.inr (Or.inr (Or.inr (Or.inr (Or.inr (Or.inr (c44))))))))))))))))))))))] at H
                                              exact H
theorem m_M_isName {h : xH} {d : Nat}  {S : xSt} {K : Int32 → xSt → Prop}  (H : K (bi (((S.1 0 6) = 1 ∧ ¬ (((S.2.1 0 9) = 7168366 ∨ ((S.2.1 0 9) = 109330211763570 ∨ ((S.2.1 0 9) = 448545973619 ∨ ((S.2.1 0 9) = 1818584692 ∨ ((S.2.1 0 9) = 1684366692 ∨ ((S.2.1 0 9) = 448546566771 ∨ ((S.2.1 0 9) = 108256604483438 ∨ ((S.2.1 0 9) = 28526 ∨ ((S.2.1 0 9) = 25209 ∨ ((S.2.1 0 9) = 1685022067 ∨ ((S.2.1 0 9) = 474148660594 ∨ ((S.2.1 0 9) = 504364296556 ∨ ((S.2.1 0 9) = 127991944667492 ∨ ((S.2.1 0 9) = 418330731890 ∨ ((S.2.1 0 9) = 112641580559972 ∨ ((S.2.1 0 9) = 2003132786 ∨ ((S.2.1 0 9) = 6578553 ∨ ((S.2.1 0 9) = 495874699885 ∨ ((S.2.1 0 9) = 1685217655 ∨ ((S.2.1 0 9) = 6385252 ∨ ((S.2.1 0 9) = 28530 ∨ (S.2.1 0 9) = 7237492))))))))))))))))))))))))) S) : M_M_isName h d S K := by
  refine e_M_isName ?_
  refine ⟨fun c => ?_, fun c => ?_⟩
  · have c1 := c
    rw [bi_neg (fun z => c1 z.1)] at H
    exact H
  · have c2 := c
    refine m_M_isOwn  ?_
    refine ⟨fun c => ?_, fun c => ?_⟩
    · have c3 := bi_n0.mp c
      rw [bi_neg (fun z => (fun z => z c3) z.2)] at H
      exact H
    · have c4 := bi_e0.mp c
      rw [bi_pos (⟨c2, c4⟩)] at H
      exact H
theorem m_M_here {h : xH} {d : Nat} {x1 : Int32} {S : xSt} {K : Int32 → xSt → Prop} (h0 : ¬ ((S.1 0 5) ≤ ((S.1 0 4) + x1)) → vp_in ((S.1 0 4) + x1) 1600) (H : K (if (S.1 0 5) ≤ ((S.1 0 4) + x1) then (-1) else (S.1 1 (((S.1 0 4) + x1) : Int32).toNatClampNeg)) S) : M_M_here h d x1 S K := by
  refine e_M_here ?_
  refine ⟨fun c => ?_, fun c => ?_⟩
  · have c1 := c
    rw [if_pos c1] at H
    exact H
  · have c2 := c
    rw [if_neg c2] at H
    refine ⟨(h0 c2), ?_⟩
    exact H
theorem m_M_isDigit {h : xH} {d : Nat} {x0 : Int32} {S : xSt} {K : Int32 → xSt → Prop}  (H : K (bi ((¬ (x0 < 48) ∧ ¬ 57 < x0))) S) : M_M_isDigit h d x0 S K := by
  refine e_M_isDigit ?_
  refine ⟨fun c => ?_, fun c => ?_⟩
  · have c1 := c
    rw [bi_neg (fun z => z.1 c1)] at H
    exact H
  · have c2 := c
    refine ⟨fun c => ?_, fun c => ?_⟩
    · have c3 := c
      rw [bi_neg (fun z => (fun z => z c3) z.2)] at H
      exact H
    · have c4 := c
      rw [bi_pos (⟨c2, c4⟩)] at H
      exact H
theorem m_M_isLetter {h : xH} {d : Nat} {x0 : Int32} {S : xSt} {K : Int32 → xSt → Prop}  (H : K (bi ((¬ (x0 < 97) ∧ ¬ 122 < x0))) S) : M_M_isLetter h d x0 S K := by
  refine e_M_isLetter ?_
  refine ⟨fun c => ?_, fun c => ?_⟩
  · have c1 := c
    rw [bi_neg (fun z => z.1 c1)] at H
    exact H
  · have c2 := c
    refine ⟨fun c => ?_, fun c => ?_⟩
    · have c3 := c
      rw [bi_neg (fun z => (fun z => z c3) z.2)] at H
      exact H
    · have c4 := c
      rw [bi_pos (⟨c2, c4⟩)] at H
      exact H
theorem m_M_isSign {h : xH} {d : Nat} {x0 : Int32} {S : xSt} {K : Int32 → xSt → Prop}  (H : K (bi ((x0 = 59 ∨ (x0 = 40 ∨ (x0 = 41 ∨ (x0 = 60 ∨ (x0 = 62 ∨ (x0 = 61 ∨ (x0 = 43 ∨ (x0 = 45 ∨ (x0 = 42 ∨ (x0 = 47 ∨ x0 = 37)))))))))))) S) : M_M_isSign h d x0 S K := by
  refine e_M_isSign ?_
  refine ⟨fun c => ?_, fun c => ?_⟩
  · have c1 := c
    rw [bi_pos (Or.inl c1)] at H
    exact H
  · have c2 := c
    refine ⟨fun c => ?_, fun c => ?_⟩
    · have c3 := c
      rw [bi_pos (Or.inr (Or.inl c3))] at H
      exact H
    · have c4 := c
      refine ⟨fun c => ?_, fun c => ?_⟩
      · have c5 := c
        rw [bi_pos (Or.inr (Or.inr (Or.inl c5)))] at H
        exact H
      · have c6 := c
        refine ⟨fun c => ?_, fun c => ?_⟩
        · have c7 := c
          rw [bi_pos (Or.inr (Or.inr (Or.inr (Or.inl c7))))] at H
          exact H
        · have c8 := c
          refine ⟨fun c => ?_, fun c => ?_⟩
          · have c9 := c
            rw [bi_pos (Or.inr (Or.inr (Or.inr (Or.inr (Or.inl c9)))))] at H
            exact H
          · have c10 := c
            refine ⟨fun c => ?_, fun c => ?_⟩
            · have c11 := c
              rw [bi_pos (Or.inr (Or.inr (Or.inr (Or.inr (Or.inr (Or.inl c11))))))] at H
              exact H
            · have c12 := c
              refine ⟨fun c => ?_, fun c => ?_⟩
              · have c13 := c
                rw [bi_pos (Or.inr (Or.inr (Or.inr (Or.inr (Or.inr (Or.inr (Or.inl c13)))))))] at H
                exact H
              · have c14 := c
                refine ⟨fun c => ?_, fun c => ?_⟩
                · have c15 := c
                  rw [bi_pos (Or.inr (Or.inr (Or.inr (Or.inr (Or.inr (Or.inr (Or.inr (Or.inl c15))))))))] at H
                  exact H
                · have c16 := c
                  refine ⟨fun c => ?_, fun c => ?_⟩
                  · have c17 := c
                    rw [bi_pos (Or.inr (Or.inr (Or.inr (Or.inr (Or.inr (Or.inr (Or.inr (Or.inr (Or.inl c17)))))))))] at H
                    exact H
                  · have c18 := c
                    refine ⟨fun c => ?_, fun c => ?_⟩
                    · have c19 := c
                      rw [bi_pos (Or.inr (Or.inr (Or.inr (Or.inr (Or.inr (Or.inr (Or.inr (Or.inr (Or.inr (Or.inl c19))))))))))] at H
                      exact H
                    · have c20 := c
                      refine ⟨fun c => ?_, fun c => ?_⟩
                      · have c21 := c
                        rw [bi_neg (fun z => z.elim c2 (fun z => z.elim c4 (fun z => z.elim c6 (fun z => z.elim c8 (fun z => z.elim c10 (fun z => z.elim c12 (fun z => z.elim c14 (fun z => z.elim c16 (fun z => z.elim c18 (fun z => z.elim c20 (c21)))))))))))] at H
                        exact H
                      · have c22 := c
                        rw [bi_pos (Or.inr (Or.inr (Or.inr (Or.inr (Or.inr (Or.inr (Or.inr (Or.inr (Or.inr (Or.inr (c22)))))))))))] at H
                        exact H
theorem m_M_truth {h : xH} {d : Nat} {x0 : Int32} {S : xSt} {K : Int32 → xSt → Prop}  (H : K (if x0 = 0 then 0 else 1) S) : M_M_truth h d x0 S K := by
  refine e_M_truth ?_
  refine ⟨fun c => ?_, fun c => ?_⟩
  · have c1 := c
    rw [if_pos c1] at H
    exact H
  · have c2 := c
    rw [if_neg c2] at H
    exact H
theorem m_M_sign {h : xH} {d : Nat}  {S : xSt} {K : Int32 → xSt → Prop}  (H : K (if ((S.1 0 6) = 1 ∧ (S.2.1 0 9) = 6385252) then 38 else (if ((S.1 0 6) = 1 ∧ (S.2.1 0 9) = 28530) then 124 else (if (S.1 0 6) = 60 then (S.1 0 6) else (if (S.1 0 6) = 62 then (S.1 0 6) else (if (S.1 0 6) = 61 then (S.1 0 6) else (if (S.1 0 6) = 43 then (S.1 0 6) else (if (S.1 0 6) = 45 then (S.1 0 6) else (if (S.1 0 6) = 42 then (S.1 0 6) else (if (S.1 0 6) = 47 then (S.1 0 6) else (if (S.1 0 6) = 37 then (S.1 0 6) else 0)))))))))) S) : M_M_sign h d S K := by
  refine e_M_sign ?_
  refine m_M_isWord  ?_
  refine ⟨fun c => ?_, fun c => ?_⟩
  · have c1 := bi_e0.mp c
    rw [if_neg c1] at H
    refine m_M_isWord  ?_
    refine ⟨fun c => ?_, fun c => ?_⟩
    · have c2 := bi_e0.mp c
      rw [if_neg c2] at H
      refine ⟨fun c => ?_, fun c => ?_⟩
      · have c3 := c
        rw [if_pos c3] at H
        exact H
      · have c4 := c
        rw [if_neg c4] at H
        refine ⟨fun c => ?_, fun c => ?_⟩
        · have c5 := c
          rw [if_pos c5] at H
          exact H
        · have c6 := c
          rw [if_neg c6] at H
          refine ⟨fun c => ?_, fun c => ?_⟩
          · have c7 := c
            rw [if_pos c7] at H
            exact H
          · have c8 := c
            rw [if_neg c8] at H
            refine ⟨fun c => ?_, fun c => ?_⟩
            · have c9 := c
              rw [if_pos c9] at H
              exact H
            · have c10 := c
              rw [if_neg c10] at H
              refine ⟨fun c => ?_, fun c => ?_⟩
              · have c11 := c
                rw [if_pos c11] at H
                exact H
              · have c12 := c
                rw [if_neg c12] at H
                refine ⟨fun c => ?_, fun c => ?_⟩
                · have c13 := c
                  rw [if_pos c13] at H
                  exact H
                · have c14 := c
                  rw [if_neg c14] at H
                  refine ⟨fun c => ?_, fun c => ?_⟩
                  · have c15 := c
                    rw [if_pos c15] at H
                    exact H
                  · have c16 := c
                    rw [if_neg c16] at H
                    refine ⟨fun c => ?_, fun c => ?_⟩
                    · have c17 := c
                      rw [if_neg c17] at H
                      exact H
                    · have c18 := c
                      rw [if_pos c18] at H
                      exact H
    · have c19 := bi_n0.mp c
      rw [if_pos c19] at H
      exact H
  · have c20 := bi_n0.mp c
    rw [if_pos c20] at H
    exact H
theorem m_M_asked {h : xH} {d : Nat}  {S : xSt} {K : Int32 → xSt → Prop}  (H : K (if (S.1 0 6) = 1 then (if (S.2.1 0 9) = 127991944667492 then 0 else (if (S.2.1 0 9) = 448545973619 then 1 else (if (S.2.1 0 9) = 495874699885 then 2 else (if (S.2.1 0 9) = 6578553 then 3 else (-1))))) else (-1)) S) : M_M_asked h d S K := by
  refine e_M_asked ?_
  refine ⟨fun c => ?_, fun c => ?_⟩
  · have c1 := c
    rw [if_pos c1] at H
    refine ⟨fun c => ?_, fun c => ?_⟩
    · have c2 := c
      rw [if_neg c2] at H
      refine ⟨fun c => ?_, fun c => ?_⟩
      · have c3 := c
        rw [if_neg c3] at H
        refine ⟨fun c => ?_, fun c => ?_⟩
        · have c4 := c
          rw [if_neg c4] at H
          refine ⟨fun c => ?_, fun c => ?_⟩
          · have c5 := c
            rw [if_neg c5] at H
            exact H
          · have c6 := c
            rw [if_pos c6] at H
            exact H
        · have c7 := c
          rw [if_pos c7] at H
          exact H
      · have c8 := c
        rw [if_pos c8] at H
        exact H
    · have c9 := c
      rw [if_pos c9] at H
      exact H
  · have c10 := c
    rw [if_neg c10] at H
    exact H
theorem m_M_isFull {h : xH} {d : Nat}  {S : xSt} {K : Int32 → xSt → Prop}  (H : K (bi (((S.1 0 20) = 60 ∨ (S.1 0 22) = 30))) S) : M_M_isFull h d S K := by
  refine e_M_isFull ?_
  refine ⟨fun c => ?_, fun c => ?_⟩
  · have c1 := c
    rw [bi_pos (Or.inl c1)] at H
    exact H
  · have c2 := c
    refine ⟨fun c => ?_, fun c => ?_⟩
    · have c3 := c
      rw [bi_neg (fun z => z.elim c2 (c3))] at H
      exact H
    · have c4 := c
      rw [bi_pos (Or.inr (c4))] at H
      exact H
theorem m_M_fault {h : xH} {d : Nat} {x1 : Int32} {S : xSt} {K : Int32 → xSt → Prop}  (H : K (if x1 = 0 then (S.1 0 2) else (if x1 = 1 then (S.1 0 3) else (-1))) S) : M_M_fault h d x1 S K := by
  refine e_M_fault ?_
  refine ⟨fun c => ?_, fun c => ?_⟩
  · have c1 := c
    rw [if_neg c1] at H
    refine ⟨fun c => ?_, fun c => ?_⟩
    · have c2 := c
      rw [if_neg c2] at H
      exact H
    · have c3 := c
      rw [if_pos c3] at H
      exact H
  · have c4 := c
    rw [if_pos c4] at H
    exact H
theorem m_M_isIn {h : xH} {d : Nat} {x0 : Int32} {x1 : Int32} {x2 : Int32} {S : xSt} {K : Int32 → xSt → Prop}  (H : K (bi ((¬ (x0 < x1) ∧ ¬ x2 < x0))) S) : M_M_isIn h d x0 x1 x2 S K := by
  refine e_M_isIn ?_
  refine ⟨fun c => ?_, fun c => ?_⟩
  · have c1 := c
    rw [bi_neg (fun z => z.1 c1)] at H
    exact H
  · have c2 := c
    refine ⟨fun c => ?_, fun c => ?_⟩
    · have c3 := c
      rw [bi_neg (fun z => (fun z => z c3) z.2)] at H
      exact H
    · have c4 := c
      rw [bi_pos (⟨c2, c4⟩)] at H
      exact H
theorem m_M_isButton {h : xH} {d : Nat} {x1 : Int32} {S : xSt} {K : Int32 → xSt → Prop}  (H : K (bi ((¬ (x1 < 0) ∧ ¬ ((S.1 0 58) - (1 : Int32)) < x1))) S) : M_M_isButton h d x1 S K := by
  refine e_M_isButton ?_
  refine m_M_isIn  ?_
  exact ⟨zb_bi, H⟩
theorem m_M_isMan {h : xH} {d : Nat} {x1 : Int32} {S : xSt} {K : Int32 → xSt → Prop}  (H : K (bi ((¬ (x1 < 0) ∧ ¬ ((S.1 0 56) - (1 : Int32)) < x1))) S) : M_M_isMan h d x1 S K := by
  refine e_M_isMan ?_
  refine m_M_isIn  ?_
  exact ⟨zb_bi, H⟩
theorem m_M_isDeed {h : xH} {d : Nat} {x1 : Int32} {S : xSt} {K : Int32 → xSt → Prop}  (H : K (bi ((¬ (x1 < 0) ∧ ¬ ((S.1 0 57) - (1 : Int32)) < x1))) S) : M_M_isDeed h d x1 S K := by
  refine e_M_isDeed ?_
  refine m_M_isIn  ?_
  exact ⟨zb_bi, H⟩
theorem m_M_isOn {h : xH} {d : Nat} {x1 : Int32} {S : xSt} {K : Int32 → xSt → Prop} (h0 : vp_in x1 24) (H : K (bi ((S.1 34 (x1 : Int32).toNatClampNeg) = 0)) S) : M_M_isOn h d x1 S K := by
  refine e_M_isOn ?_
  refine ⟨h0, ?_⟩
  refine ⟨fun c => ?_, fun c => ?_⟩
  · have c1 := c
    rw [bi_neg (c1)] at H
    exact H
  · have c2 := c
    rw [bi_pos (c2)] at H
    exact H
theorem m_M_doneOn {h : xH} {d : Nat} {x1 : Int32} {S : xSt} {K : Int32 → xSt → Prop} (h0 : ¬ (S.1 0 60) = 0) (H : K ((S.1 0 80) + ((x1 - (1 : Int32)) / (S.1 0 60))) S) : M_M_doneOn h d x1 S K := by
  refine e_M_doneOn ?_
  refine ⟨h0, ?_⟩
  exact H
theorem m_M_has {h : xH} {d : Nat} {x1 : Int32} {S : xSt} {K : Int32 → xSt → Prop} (h0 : vp_in x1 6) (h1 : 0 ≤ (S.1 44 (x1 : Int32).toNatClampNeg) → vp_in x1 6) (h2 : 0 ≤ (S.1 44 (x1 : Int32).toNatClampNeg) → vp_in (((6 : Int32) * x1) + (S.1 44 (x1 : Int32).toNatClampNeg)) 36) (H : K (if 0 ≤ (S.1 44 (x1 : Int32).toNatClampNeg) then (S.1 19 ((((6 : Int32) * x1) + (S.1 44 (x1 : Int32).toNatClampNeg)) : Int32).toNatClampNeg) else 0) S) : M_M_has h d x1 S K := by
  refine e_M_has ?_
  refine ⟨h0, ?_⟩
  refine ⟨fun c => ?_, fun c => ?_⟩
  · have c1 := c
    rw [if_pos c1] at H
    refine ⟨(h1 c1), ?_⟩
    refine ⟨(h2 c1), ?_⟩
    exact H
  · have c2 := c
    rw [if_neg c2] at H
    exact H
theorem m_M_isTold {h : xH} {d : Nat} {x1 : Int32} {x2 : Int32} {S : xSt} {K : Int32 → xSt → Prop} (h0 : vp_in (((6 : Int32) * x1) + x2) 36) (H : K (bi (¬ (S.1 19 ((((6 : Int32) * x1) + x2) : Int32).toNatClampNeg) = (-100))) S) : M_M_isTold h d x1 x2 S K := by
  refine e_M_isTold ?_
  refine ⟨h0, ?_⟩
  refine ⟨fun c => ?_, fun c => ?_⟩
  · have c1 := c
    rw [bi_neg (fun z => z c1)] at H
    exact H
  · have c2 := c
    rw [bi_pos (c2)] at H
    exact H
theorem m_M_likes {h : xH} {d : Nat} {x1 : Int32} {x2 : Int32} {S : xSt} {K : Int32 → xSt → Prop} (h0 : (¬ (x1 < 0) ∧ ¬ ((S.1 0 56) - (1 : Int32)) < x1) → (¬ (x2 < 0) ∧ ¬ ((S.1 0 56) - (1 : Int32)) < x2) → ¬ (x1 = x2) → vp_in (((6 : Int32) * x1) + x2) 36) (H : K (if (¬ (x1 < 0) ∧ ¬ ((S.1 0 56) - (1 : Int32)) < x1) then (if (¬ (x2 < 0) ∧ ¬ ((S.1 0 56) - (1 : Int32)) < x2) then (if x1 = x2 then (-100) else (S.1 19 ((((6 : Int32) * x1) + x2) : Int32).toNatClampNeg)) else (-100)) else (-100)) S) : M_M_likes h d x1 x2 S K := by
  refine e_M_likes ?_
  refine m_M_isMan  ?_
  refine ⟨fun c => ?_, fun c => ?_⟩
  · have c1 := bi_e0.mp c
    rw [if_neg c1] at H
    exact H
  · have c2 := bi_n0.mp c
    rw [if_pos c2] at H
    refine m_M_isMan  ?_
    refine ⟨fun c => ?_, fun c => ?_⟩
    · have c3 := bi_e0.mp c
      rw [if_neg c3] at H
      exact H
    · have c4 := bi_n0.mp c
      rw [if_pos c4] at H
      refine ⟨fun c => ?_, fun c => ?_⟩
      · have c5 := c
        rw [if_pos c5] at H
        exact H
      · have c6 := c
        rw [if_neg c6] at H
        refine ⟨(h0 c2 c4 c6), ?_⟩
        exact H
theorem m_M_lies {h : xH} {d : Nat} {x1 : Int32} {S : xSt} {K : Int32 → xSt → Prop} (h0 : (¬ (x1 < 0) ∧ ¬ ((S.1 0 85) - (1 : Int32)) < x1) → vp_in x1 10) (H : K (if (¬ (x1 < 0) ∧ ¬ ((S.1 0 85) - (1 : Int32)) < x1) then (S.1 42 (x1 : Int32).toNatClampNeg) else (-2)) S) : M_M_lies h d x1 S K := by
  refine e_M_lies ?_
  refine m_M_isIn  ?_
  refine ⟨fun c => ?_, fun c => ?_⟩
  · have c1 := bi_e0.mp c
    rw [if_neg c1] at H
    exact H
  · have c2 := bi_n0.mp c
    rw [if_pos c2] at H
    refine ⟨(h0 c2), ?_⟩
    exact H
theorem m_M_markOf {h : xH} {d : Nat} {x1 : Int32} {x2 : Int32} {S : xSt} {K : Int32 → xSt → Prop} (h0 : ¬ (x2 = 0) → ¬ (x2 = 1) → vp_in x1 6) (h1 : ¬ (x2 = 0) → x2 = 1 → vp_in x1 6) (h2 : x2 = 0 → vp_in x1 6) (H : K (if x2 = 0 then (S.1 15 (x1 : Int32).toNatClampNeg) else (if x2 = 1 then (S.1 16 (x1 : Int32).toNatClampNeg) else (S.1 17 (x1 : Int32).toNatClampNeg))) S) : M_M_markOf h d x1 x2 S K := by
  refine e_M_markOf ?_
  refine ⟨fun c => ?_, fun c => ?_⟩
  · have c1 := c
    rw [if_neg c1] at H
    refine ⟨fun c => ?_, fun c => ?_⟩
    · have c2 := c
      rw [if_neg c2] at H
      refine ⟨(h0 c1 c2), ?_⟩
      exact H
    · have c3 := c
      rw [if_pos c3] at H
      refine ⟨(h1 c1 c3), ?_⟩
      exact H
  · have c4 := c
    rw [if_pos c4] at H
    refine ⟨(h2 c4), ?_⟩
    exact H
theorem m_M_isBox {h : xH} {d : Nat} {x0 : Int32} {S : xSt} {K : Int32 → xSt → Prop}  (H : K (bi ((¬ (x0 < 0) ∧ ¬ 3 ≤ x0))) S) : M_M_isBox h d x0 S K := by
  refine e_M_isBox ?_
  refine ⟨fun c => ?_, fun c => ?_⟩
  · have c1 := c
    rw [bi_neg (fun z => z.1 c1)] at H
    exact H
  · have c2 := c
    refine ⟨fun c => ?_, fun c => ?_⟩
    · have c3 := c
      rw [bi_neg (fun z => (fun z => z c3) z.2)] at H
      exact H
    · have c4 := c
      rw [bi_pos (⟨c2, c4⟩)] at H
      exact H
end
