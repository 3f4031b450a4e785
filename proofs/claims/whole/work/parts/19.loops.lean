section
theorem lp_if {α : Type} {B : Nat → α → Prop} (P : Nat → Prop) [DecidablePred P] (g : Nat → α → α) (n : Nat) (hs : ∀ i a, i < n → (P i → B (i + 1) (g i a) → B i a) ∧ (¬ P i → B (i + 1) a → B i a)) (a : α) (H : B n (fo (fun i a => if P i then g i a else a) n a)) : B 0 a := by
  refine lp_up _ n (fun i a hi h => ?_) a H
  by_cases c : P i
  · exact (hs i a hi).1 c (by rwa [if_pos c] at h)
  · exact (hs i a hi).2 c (by rwa [if_neg c] at h)
abbrev oneAt (k : Int32) : Int32 := (1 : Int32) <<< (k &&& 31)
theorem or_z (x k : Int32) : x ||| ((0 : Int32) <<< k) = x := by
  rw [show ((0 : Int32) <<< k) = 0 by simp]
  simp
theorem b_one : ∀ k, k < 32 → ∀ i, i < 32 → bt (oneAt (nI k)) i = decide (i = k) := by decide +kernel
variable {hc hm : xH} {d e : Nat} {S M : xSt}
-- coat
abbrev coW (S : xSt) (x2 : Int32) (i : Nat) : Int32 := if x2 = 1 then S.1 8 i else S.1 7 i
abbrev coS (x2 : Int32) : Int32 := if x2 = 2 then 3 else if x2 = 3 then 4 else 0
abbrev coR (S : xSt) (x1 x2 : Int32) (n : Nat) : Int32 := fo (fun i a => if coW S x2 i = x1 ∧ S.1 42 i = coS x2 then a ||| oneAt (nI i) else a) n 0
theorem m_coat_lp {nb : Nat} (hn : S.1 2 6 = nI nb) (hb : nb ≤ 10) {x1 x2 : Int32} {K : Int32 → xSt → Prop} (H : K (coR S x1 x2 nb) S) : B_O_coat_27 hc d x1 x2 0 0 S K := by
  refine lp_if (B := fun i a => B_O_coat_27 hc d x1 x2 a (nI i) S K) (fun i => coW S x2 i = x1 ∧ S.1 42 i = coS x2) (fun i a => a ||| oneAt (nI i)) nb (fun i a hi => ?_) 0 (b_O_coat_27 (br_t (by rw [hn]; exact nI_le (Nat.le_refl _) (by omega)) H))
  have ci : (nI i).toNatClampNeg = i := nCl (by omega)
  have v10 : vp_in (nI i) 10 := vIn (by omega) (by omega)
  have v23 : vp_in (nI i) 23 := vIn (by omega) (by omega)
  have h0 : ¬ S.1 2 6 ≤ nI i := by rw [hn]; exact nI_ge hi (by omega)
  have st : ∀ w, (w = coW S x2 i) → B_O_coat_88 hc d x1 x2 a (nI i) w (coS x2) S K → B_O_coat_27 hc d x1 x2 a (nI i) S K := by
    intro w hw h
    have h2 : B_O_coat_67 hc d x1 x2 a (nI i) w S K := by
      refine b_O_coat_67 ?_
      unfold coS at h
      by_cases c2 : x2 = 2
      · rw [if_pos c2] at h; exact br_nt c2 h
      · rw [if_neg c2] at h
        refine br_nf c2 ?_
        by_cases c3 : x2 = 3
        · rw [if_pos c3] at h; exact br_nt c3 h
        · rw [if_neg c3] at h; exact br_nf c3 h
    refine b_O_coat_27 (br_f h0 ?_)
    rw [ci]
    subst hw
    unfold coW at h2
    by_cases c1 : x2 = 1
    · rw [if_pos c1] at h2; exact br_nt c1 ⟨v10, h2⟩
    · rw [if_neg c1] at h2; exact br_nf c1 ⟨v10, h2⟩
  refine ⟨fun p h => st _ rfl (b_O_coat_88 (br_nt p.1 (m_Co_stateOf v23 ?_))), fun p h => st _ rfl (b_O_coat_88 ?_)⟩
  · rw [ci]; exact br_nt p.2 (b_O_coat_117 (by rw [nI_1]; exact h))
  · by_cases c : coW S x2 i = x1
    · refine br_nt c (m_Co_stateOf v23 ?_)
      rw [ci]; exact br_nf (fun z => p ⟨c, z⟩) (b_O_coat_117 (by rw [nI_1]; exact h))
    · exact br_nf c (b_O_coat_117 (by rw [nI_1]; exact h))
theorem m_M_coat_lp {nb : Nat} (hn : M.1 0 58 = nI nb) (hb : nb ≤ 10) (hN : ∀ b, b < nb → M.1 34 b = S.1 42 b) (h1 : ∀ b, b < nb → M.1 26 b = S.1 7 b ∧ M.1 27 b = S.1 8 b) {x1 x2 : Int32} {K : Int32 → xSt → Prop} (H : K (coR S x1 x2 nb) M) : B_M_coat_45 hm e x1 x2 (coS x2) 0 0 M K := by
  refine lp_if (B := fun i a => B_M_coat_45 hm e x1 x2 (coS x2) a (nI i) M K) (fun i => coW S x2 i = x1 ∧ S.1 42 i = coS x2) (fun i a => a ||| oneAt (nI i)) nb (fun i a hi => ?_) 0 (b_M_coat_45 (br_t (by rw [hn]; exact nI_le (Nat.le_refl _) (by omega)) H))
  have ci : (nI i).toNatClampNeg = i := nCl (by omega)
  have v10 : vp_in (nI i) 10 := vIn (by omega) (by omega)
  have v24 : vp_in (nI i) 24 := vIn (by omega) (by omega)
  have h0 : ¬ M.1 0 58 ≤ nI i := by rw [hn]; exact nI_ge hi (by omega)
  obtain ⟨o1, o2⟩ := h1 i hi
  have st : S.1 42 i = coS x2 → B_M_coat_89 hm e x1 x2 (coS x2) (nI i) (coW S x2 i) a M K → B_M_coat_45 hm e x1 x2 (coS x2) a (nI i) M K := by
    intro q h
    refine b_M_coat_45 (br_f h0 ⟨v24, ?_⟩)
    rw [ci, hN i hi, o1, o2]
    refine br_nt q ?_
    unfold coW at h
    by_cases c1 : x2 = 1
    · rw [if_pos c1] at h; exact br_nt c1 ⟨v10, h⟩
    · rw [if_neg c1] at h; exact br_nf c1 ⟨v10, h⟩
  have no : B_M_coat_45 hm e x1 x2 (coS x2) a (nI (i + 1)) M K → B_M_coat_97 hm e x1 x2 (coS x2) (nI i) a M K := fun h => b_M_coat_97 (b_M_coat_98 (truth0 (by rw [or_z, nI_1]; exact h)))
  refine ⟨fun p h => st p.2 (b_M_coat_89 (br_nt p.1 (b_M_coat_98 (truth1 (by rw [nI_1]; exact h))))), fun p h => ?_⟩
  by_cases c : S.1 42 i = coS x2
  · exact st c (b_M_coat_89 (br_nf (fun z => p ⟨z, c⟩) (no h)))
  · refine b_M_coat_45 (br_f h0 ⟨v24, ?_⟩)
    rw [ci, hN i hi]
    exact br_nf c (no h)
theorem four03 {x : Int32} (h0 : ¬ x < 0) (h3 : x ≤ 3) : x = 0 ∨ x = 1 ∨ x = 2 ∨ x = 3 := by
  obtain ⟨j, hj, rfl⟩ := nI_of h0
  have : j ≤ 3 := by rwa [show (3 : Int32) = nI 3 from rfl, nLe hj (by omega)] at h3
  rcases (show j = 0 ∨ j = 1 ∨ j = 2 ∨ j = 3 by omega) with rfl | rfl | rfl | rfl
  · exact Or.inl rfl
  · exact Or.inr (Or.inl rfl)
  · exact Or.inr (Or.inr (Or.inl rfl))
  · exact Or.inr (Or.inr (Or.inr rfl))
theorem nle_lt {x y : Int32} : ¬ x ≤ y ↔ y < x := by rw [Int32.le_iff_toInt_le, Int32.lt_iff_toInt_lt]; omega
theorem sim_coat (hR : Rel S M) (x1 x2 : Int32) : OKi Rel (M_O_coat hc d x1 x2 S) (M_M_coat hm e x1 x2 M) := by
  have hR0 := hR
  obtain ⟨nm, nd, nb, nf, hd, st, hT, hM, hW, hN, hH, hB, hG, hL, hF, hA⟩ := hR
  have hb : nb ≤ 10 := hT.2.2.1.2
  have hb2 : S.1 2 6 = nI nb := hT.2.2.1.1
  have tm := hT.1
  obtain ⟨⟨mm, md, mb, -⟩, -, -, hbt, -⟩ := hM
  rcases outC x1 tm.1 (by omega) with c | ⟨j, hj, rfl, c1, c2⟩
  · exact ⟨_, S, M, fun K H => e_O_coat (hMan_n c (br_t rfl H)), fun K H => e_M_coat (isMan_n tm.1 mm (by omega) c (br_t rfl H)), hR0⟩
  · by_cases c3 : x2 < 0
    · exact ⟨_, S, M, fun K H => e_O_coat (hMan_y c1 c2 (br_f (by decide) (br_t c3 H))), fun K H => e_M_coat (isMan_y tm.1 mm (by omega) c1 c2 (br_f (by decide) (isIn_n (fun z => z.1 c3) (br_nt rfl H)))), hR0⟩
    · by_cases c4 : x2 ≤ 3
      · refine ⟨coR S (nI j) x2 nb, S, M, fun K H => e_O_coat (hMan_y c1 c2 (br_f (by decide) (br_f c3 (br_t c4 (m_coat_lp hb2 hb H))))), fun K H => e_M_coat (isMan_y tm.1 mm (by omega) c1 c2 (br_f (by decide) (isIn_y ⟨c3, fun z => (nle_lt.mpr z) c4⟩ (br_nf (by decide) ?_)))), hR0⟩
        have run := m_M_coat_lp (hm := hm) (e := e) (S := S) (mb.trans hb2) hb (fun b q => (hN.1 b q).1) (fun b q => ⟨(hbt b q).1, (hbt b q).2.1⟩) H
        rcases four03 c3 c4 with rfl | rfl | rfl | rfl
        · exact br_f (by decide) (b_M_coat_38 run)
        · exact br_f (by decide) (b_M_coat_38 run)
        · exact br_t (by decide) (br_nt rfl (b_M_coat_38 run))
        · exact br_t (by decide) (br_nf (by decide) (b_M_coat_38 run))
      · exact ⟨_, S, M, fun K H => e_O_coat (hMan_y c1 c2 (br_f (by decide) (br_f c3 (br_f c4 H)))), fun K H => e_M_coat (isMan_y tm.1 mm (by omega) c1 c2 (br_f (by decide) (isIn_n (fun z => z.2 (nle_lt.mp c4)) (br_nt rfl H)))), hR0⟩
theorem sim_many (hR : Rel S M) (x1 : Int32) : OKi Rel (M_O_many hc d x1 S) (M_M_many hm e x1 M) := by
  have hR0 := hR
  obtain ⟨nm, nd, nb, nf, hd, st, hT, hM, hW, hN, hH, hB, hG, hL, hF, hA⟩ := hR
  have hb : nb ≤ 10 := hT.2.2.1.2
  have hb2 : S.1 2 6 = nI nb := hT.2.2.1.1
  obtain ⟨⟨mm, md, mb, -⟩, -, -, hbt, -⟩ := hM
  by_cases c3 : x1 < 0
  · exact ⟨_, S, M, fun K H => e_O_many (br_t c3 H), fun K H => e_M_many (isIn_n (fun z => z.1 c3) (br_nt rfl H)), hR0⟩
  · by_cases c4 : x1 ≤ 4
    · refine ⟨fo (fun i a => if S.1 42 i = x1 then a + 1 else a) nb 0, S, M, fun K H => e_O_many (br_f c3 (br_t c4 ?_)), fun K H => e_M_many (isIn_y ⟨c3, fun z => (nle_lt.mpr z) c4⟩ (br_nf (by decide) ?_)), hR0⟩
      · refine lp_if (B := fun i a => B_O_many_15 hc d x1 a (nI i) S K) (fun i => S.1 42 i = x1) (fun i a => a + 1) nb (fun i a hi => ?_) 0 (b_O_many_15 (br_t (by rw [hb2]; exact nI_le (Nat.le_refl _) (by omega)) H))
        have h0 : ¬ S.1 2 6 ≤ nI i := by rw [hb2]; exact nI_ge hi (by omega)
        refine ⟨fun p h => b_O_many_15 (br_f h0 (m_Co_stateOf (vIn (by omega) (by omega)) ?_)), fun p h => b_O_many_15 (br_f h0 (m_Co_stateOf (vIn (by omega) (by omega)) ?_))⟩
        · rw [nCl (by omega)]; exact br_nt p (b_O_many_41 (by rw [nI_1]; exact h))
        · rw [nCl (by omega)]; exact br_nf p (b_O_many_41 (by rw [nI_1]; exact h))
      · refine lp_if (B := fun i a => B_M_many_15 hm e x1 a (nI i) M K) (fun i => S.1 42 i = x1) (fun i a => a + 1) nb (fun i a hi => ?_) 0 (b_M_many_15 (br_t (by rw [mb, hb2]; exact nI_le (Nat.le_refl _) (by omega)) H))
        have h0 : ¬ M.1 0 58 ≤ nI i := by rw [mb, hb2]; exact nI_ge hi (by omega)
        refine ⟨fun p h => b_M_many_15 (br_f h0 ⟨vIn (by omega) (by omega), ?_⟩), fun p h => b_M_many_15 (br_f h0 ⟨vIn (by omega) (by omega), ?_⟩)⟩
        · rw [nCl (by omega), (hN.1 i hi).1]; exact br_nt p (b_M_many_39 (truth1 (by rw [nI_1]; exact h)))
        · rw [nCl (by omega), (hN.1 i hi).1]; exact br_nf p (b_M_many_39 (truth0 (by rw [nI_1, Int32.add_zero]; exact h)))
    · exact ⟨_, S, M, fun K H => e_O_many (br_f c3 (br_f c4 H)), fun K H => e_M_many (isIn_n (fun z => z.2 (nle_lt.mp c4)) (br_nt rfl H)), hR0⟩
theorem sim_ties (hR : Rel S M) (x1 x2 : Int32) : OKi Rel (M_O_ties hc d x1 x2 S) (M_M_ties hm e x1 x2 M) := by
  have hR0 := hR
  obtain ⟨nm, nd, nb, nf, hd, st, hT, hM, hW, hN, hH, hB, hG, hL, hF, hA⟩ := hR
  have hb : nb ≤ 10 := hT.2.2.1.2
  have hb2 : S.1 2 6 = nI nb := hT.2.2.1.1
  have tm := hT.1
  obtain ⟨⟨mm, md, mb, -⟩, -, -, hbt, -⟩ := hM
  rcases outC x1 tm.1 (by omega) with c | ⟨j, hj, rfl, c1, c2⟩
  · exact ⟨_, S, M, fun K H => e_O_ties (hMan_n c (br_t rfl H)), fun K H => e_M_ties (isMan_n tm.1 mm (by omega) c (br_t rfl H)), hR0⟩
  · rcases outC x2 tm.1 (by omega) with c | ⟨j2, hj2, rfl, c3, c4⟩
    · exact ⟨_, S, M, fun K H => e_O_ties (hMan_y c1 c2 (br_f (by decide) (hMan_n c (br_t rfl H)))), fun K H => e_M_ties (isMan_y tm.1 mm (by omega) c1 c2 (br_f (by decide) (isMan_n tm.1 mm (by omega) c (br_t rfl H)))), hR0⟩
    · by_cases c5 : nI j = nI j2
      · exact ⟨_, S, M, fun K H => e_O_ties (hMan_y c1 c2 (br_f (by decide) (hMan_y c3 c4 (br_f (by decide) (br_nt c5 H))))), fun K H => e_M_ties (isMan_y tm.1 mm (by omega) c1 c2 (br_f (by decide) (isMan_y tm.1 mm (by omega) c3 c4 (br_f (by decide) (br_nt c5 H))))), hR0⟩
      · refine ⟨fo (fun i a => if (S.1 42 i = 0 ∧ S.1 7 i = nI j) ∧ S.1 8 i = nI j2 then a ||| oneAt (nI i) else a) nb 0, S, M, fun K H => e_O_ties (hMan_y c1 c2 (br_f (by decide) (hMan_y c3 c4 (br_f (by decide) (br_nf c5 ?_))))), fun K H => e_M_ties (isMan_y tm.1 mm (by omega) c1 c2 (br_f (by decide) (isMan_y tm.1 mm (by omega) c3 c4 (br_f (by decide) (br_nf c5 ?_))))), hR0⟩
        · refine lp_if (B := fun i a => B_O_ties_34 hc d (nI j) (nI j2) a (nI i) S K) (fun i => (S.1 42 i = 0 ∧ S.1 7 i = nI j) ∧ S.1 8 i = nI j2) (fun i a => a ||| oneAt (nI i)) nb (fun i a hi => ?_) 0 (b_O_ties_34 (br_t (by rw [hb2]; exact nI_le (Nat.le_refl _) (by omega)) H))
          have h0 : ¬ S.1 2 6 ≤ nI i := by rw [hb2]; exact nI_ge hi (by omega)
          have ci : (nI i).toNatClampNeg = i := nCl (by omega)
          have v10 : vp_in (nI i) 10 := vIn (by omega) (by omega)
          refine ⟨fun p h => b_O_ties_34 (br_f h0 (m_Co_isOnMan (vIn (by omega) (by omega)) (fun _ => v10) ?_)), fun p h => b_O_ties_34 (br_f h0 (m_Co_isOnMan (vIn (by omega) (by omega)) (fun _ => v10) ?_))⟩
          · rw [ci, bi_pos p.1]; exact br_f (by decide) ⟨v10, br_nt p.2 (b_O_ties_80 (by rw [nI_1]; exact h))⟩
          · rw [ci]
            by_cases q : S.1 42 i = 0 ∧ S.1 7 i = nI j
            · rw [bi_pos q]; exact br_f (by decide) ⟨v10, br_nf (fun z => p ⟨q, z⟩) (b_O_ties_80 (by rw [nI_1]; exact h))⟩
            · rw [bi_neg q]; exact br_t rfl (b_O_ties_80 (by rw [nI_1]; exact h))
        · refine lp_if (B := fun i a => B_M_ties_28 hm e (nI j) (nI j2) a (nI i) M K) (fun i => (S.1 42 i = 0 ∧ S.1 7 i = nI j) ∧ S.1 8 i = nI j2) (fun i a => a ||| oneAt (nI i)) nb (fun i a hi => ?_) 0 (b_M_ties_28 (br_t (by rw [mb, hb2]; exact nI_le (Nat.le_refl _) (by omega)) H))
          have h0 : ¬ M.1 0 58 ≤ nI i := by rw [mb, hb2]; exact nI_ge hi (by omega)
          have ci : (nI i).toNatClampNeg = i := nCl (by omega)
          have v10 : vp_in (nI i) 10 := vIn (by omega) (by omega)
          have nj : M.1 34 i = S.1 42 i := (hN.1 i hi).1
          obtain ⟨g1, g2, -⟩ := hbt i hi
          have no : B_M_ties_28 hm e (nI j) (nI j2) a (nI (i + 1)) M K → B_M_ties_73 hm e (nI j) (nI j2) (nI i) a M K := fun h => b_M_ties_73 (b_M_ties_74 (truth0 (by rw [or_z, nI_1]; exact h)))
          refine ⟨fun p h => b_M_ties_28 (br_f h0 (isOn_y (by omega) (nj.trans p.1.1) (br_f (by decide) ⟨v10, ?_⟩))), fun p h => b_M_ties_28 (br_f h0 ?_)⟩
          · rw [ci, g1, g2]; exact br_nt p.1.2 ⟨v10, br_nt p.2 (b_M_ties_74 (truth1 (by rw [nI_1]; exact h)))⟩
          · by_cases q : S.1 42 i = 0
            · refine isOn_y (by omega) (nj.trans q) (br_f (by decide) ⟨v10, ?_⟩)
              rw [ci, g1, g2]
              by_cases q2 : S.1 7 i = nI j
              · exact br_nt q2 ⟨v10, br_nf (fun z => p ⟨⟨q, q2⟩, z⟩) (no h)⟩
              · exact br_nf q2 (no h)
            · exact isOn_n (by omega) (by rw [nj]; exact q) (br_t rfl (no h))
theorem sim_sworn (hR : Rel S M) (x1 x2 : Int32) : OKi Rel (M_O_sworn hc d x1 x2 S) (M_M_sworn hm e x1 x2 M) := by
  have hR0 := hR
  obtain ⟨nm, nd, nb, nf, hd, st, hT, hM, hW, hN, hH, hB, hG, hL, hF, hA⟩ := hR
  have hb : nb ≤ 10 := hT.2.2.1.2
  have hb2 : S.1 2 6 = nI nb := hT.2.2.1.1
  have td := hT.2.1
  obtain ⟨⟨mm, md, mb, -⟩, -, -, hbt, -⟩ := hM
  have hbs := hT.2.2.2.2.2.2.2.2.1
  rcases outC x1 td.1 (by omega) with c | ⟨j, hj, rfl, c1, c2⟩
  · exact ⟨_, S, M, fun K H => e_O_sworn (hDeed_n c (br_t rfl H)), fun K H => e_M_sworn (isDeed_n td.1 md (by omega) c (br_t rfl H)), hR0⟩
  · by_cases c3 : x2 < 0
    · exact ⟨_, S, M, fun K H => e_O_sworn (hDeed_y c1 c2 (br_f (by decide) (br_t c3 H))), fun K H => e_M_sworn (isDeed_y td.1 md (by omega) c1 c2 (br_f (by decide) (isIn_n (fun z => z.1 c3) (br_nt rfl H)))), hR0⟩
    · by_cases c4 : x2 ≤ 1
      · have hx : x2 = 0 ∨ x2 = 1 := by
          obtain ⟨k, hk, rfl⟩ := nI_of c3
          have : k ≤ 1 := by rwa [show (1 : Int32) = nI 1 from rfl, nLe hk (by omega)] at c4
          rcases (show k = 0 ∨ k = 1 by omega) with rfl | rfl
          · exact Or.inl rfl
          · exact Or.inr rfl
        refine ⟨fo (fun i a => if S.1 42 i = 0 ∧ S.1 9 i = nI j ∧ S.1 10 i = 1 - x2 then a ||| oneAt (S.1 7 i) else a) nb 0, S, M, fun K H => e_O_sworn (hDeed_y c1 c2 (br_f (by decide) (br_f c3 (br_t c4 ?_)))), fun K H => e_M_sworn (isDeed_y td.1 md (by omega) c1 c2 (br_f (by decide) (isIn_y ⟨c3, fun z => (nle_lt.mpr z) c4⟩ (br_nf (by decide) ?_)))), hR0⟩
        · refine lp_if (B := fun i a => B_O_sworn_27 hc d (nI j) x2 a (nI i) S K) (fun i => S.1 42 i = 0 ∧ S.1 9 i = nI j ∧ S.1 10 i = 1 - x2) (fun i a => a ||| oneAt (S.1 7 i)) nb (fun i a hi => ?_) 0 (b_O_sworn_27 (br_t (by rw [hb2]; exact nI_le (Nat.le_refl _) (by omega)) H))
          have h0 : ¬ S.1 2 6 ≤ nI i := by rw [hb2]; exact nI_ge hi (by omega)
          have ci : (nI i).toNatClampNeg = i := nCl (by omega)
          have v10 : vp_in (nI i) 10 := vIn (by omega) (by omega)
          refine ⟨fun p h => b_O_sworn_27 (br_f h0 (m_Co_isOn (vIn (by omega) (by omega)) ?_)), fun p h => b_O_sworn_27 (br_f h0 (m_Co_isOn (vIn (by omega) (by omega)) ?_))⟩
          · rw [ci, bi_pos p.1]; exact br_f (by decide) ⟨v10, br_nt p.2.1 ⟨v10, br_nt p.2.2 ⟨v10, b_O_sworn_96 (by rw [nI_1]; exact h)⟩⟩⟩
          · rw [ci]
            by_cases q : S.1 42 i = 0
            · rw [bi_pos q]
              refine br_f (by decide) ⟨v10, ?_⟩
              by_cases q2 : S.1 9 i = nI j
              · exact br_nt q2 ⟨v10, br_nf (fun z => p ⟨q, q2, z⟩) (b_O_sworn_96 (by rw [nI_1]; exact h))⟩
              · exact br_nf q2 (b_O_sworn_96 (by rw [nI_1]; exact h))
            · rw [bi_neg q]; exact br_t rfl (b_O_sworn_96 (by rw [nI_1]; exact h))
        · refine lp_if (B := fun i a => B_M_sworn_24 hm e (nI j) x2 a (nI i) M K) (fun i => S.1 42 i = 0 ∧ S.1 9 i = nI j ∧ S.1 10 i = 1 - x2) (fun i a => a ||| oneAt (S.1 7 i)) nb (fun i a hi => ?_) 0 (b_M_sworn_24 (br_t (by rw [mb, hb2]; exact nI_le (Nat.le_refl _) (by omega)) H))
          have h0 : ¬ M.1 0 58 ≤ nI i := by rw [mb, hb2]; exact nI_ge hi (by omega)
          have ci : (nI i).toNatClampNeg = i := nCl (by omega)
          have v10 : vp_in (nI i) 10 := vIn (by omega) (by omega)
          have nj : M.1 34 i = S.1 42 i := (hN.1 i hi).1
          obtain ⟨g1, g2, g3, g4, -⟩ := hbt i hi
          have pick : ∀ P : Int32 → Prop, P (1 - x2) → ((¬ x2 = 0 → P 0) ∧ (x2 = 0 → P 1)) := by
            intro P h
            rcases hx with rfl | rfl
            · exact br_nt rfl h
            · exact br_nf (by decide) h
          refine ⟨fun p h => b_M_sworn_24 (br_f h0 (isOn_y (by omega) (nj.trans p.1) (br_f (by decide) ⟨v10, ?_⟩))), fun p h => b_M_sworn_24 (br_f h0 ?_)⟩
          · rw [ci, g3, g4]
            refine br_nt p.2.1 ⟨v10, pick (fun z => B_M_sworn_69 hm e (nI j) x2 a (nI i) z (S.1 10 i) M K) (b_M_sworn_69 (br_nt p.2.2 ⟨v10, b_M_sworn_84 ?_⟩))⟩
            rw [ci, g1, nI_1]; exact h
          · by_cases q : S.1 42 i = 0
            · refine isOn_y (by omega) (nj.trans q) (br_f (by decide) ⟨v10, ?_⟩)
              rw [ci, g3, g4]
              by_cases q2 : S.1 9 i = nI j
              · exact br_nt q2 ⟨v10, pick (fun z => B_M_sworn_69 hm e (nI j) x2 a (nI i) z (S.1 10 i) M K) (b_M_sworn_69 (br_nf (fun z => p ⟨q, q2, z⟩) (b_M_sworn_84 (by rw [nI_1]; exact h))))⟩
              · exact br_nf q2 (b_M_sworn_84 (by rw [nI_1]; exact h))
            · exact isOn_n (by omega) (by rw [nj]; exact q) (br_t rfl (b_M_sworn_84 (by rw [nI_1]; exact h)))
      · exact ⟨_, S, M, fun K H => e_O_sworn (hDeed_y c1 c2 (br_f (by decide) (br_f c3 (br_f c4 H)))), fun K H => e_M_sworn (isDeed_y td.1 md (by omega) c1 c2 (br_f (by decide) (isIn_n (fun z => z.2 (nle_lt.mp c4)) (br_nt rfl H)))), hR0⟩
end
