section
variable {hc hm : xH} {d e : Nat} {S M : xSt}
theorem Row.cuts {nb : Nat} {f g : Nat → Int32} (h : Row nb f g) (hb : nb ≤ 10) {v : Int32} (hv : ∃ k, k ≤ 3 ∧ v = nI k) : Row nb (upd f 22 v) (upd g 22 v) := by
  obtain ⟨h1, h2, h3, h4, h5, h6⟩ := h
  refine ⟨fun j q => ?_, ?_, ?_, ?_, ?_, ?_⟩
  · rw [up_n f _ (show j ≠ 22 by omega), up_n g _ (show j ≠ 22 by omega), up_n f _ (show 10 + j ≠ 22 by omega), up_n g _ (show 10 + j ≠ 22 by omega)]; exact h1 j q
  · rw [up_n f _ (by omega), up_n g _ (by omega)]; exact h2
  · rw [up_n f _ (by omega), up_n g _ (by omega)]; exact h3
  · rw [up_s, up_s]
  · rw [up_n f _ (by omega)]; exact h5
  · rw [up_s]; exact hv
theorem btnOn_n {x : Int32} {K : Int32 → xSt → Prop} (h : Out x (S.1 2 6) ) (H : K 0 S) : M_O_isButtonOn hc d x S K := m_O_isButtonOn (fun z => absurd z (out_n h)) (by rw [bi_neg (fun z => out_n h z.1)]; exact H)
theorem btnOn_f {j : Nat} (hj : j < 23) {K : Int32 → xSt → Prop} (h : ¬ S.1 42 j = 0) (H : K 0 S) : M_O_isButtonOn hc d (nI j) S K := m_O_isButtonOn (fun _ => vIn hj (by omega)) (by rw [bi_neg (fun z => h (by have := z.2; rwa [nCl (by omega)] at this))]; exact H)
theorem btnOn_y {j : Nat} (hj : j < 23) (c1 : ¬ nI j < 0) (c2 : ¬ S.1 2 6 ≤ nI j) {K : Int32 → xSt → Prop} (h : S.1 42 j = 0) (H : K 1 S) : M_O_isButtonOn hc d (nI j) S K := m_O_isButtonOn (fun _ => vIn hj (by omega)) (by rw [bi_pos ⟨⟨c1, c2⟩, by rw [nCl (by omega)]; exact h⟩]; exact H)
theorem isOn_n {j : Nat} (hj : j < 24) {K : Int32 → xSt → Prop} (h : ¬ M.1 34 j = 0) (H : K 0 M) : M_M_isOn hm e (nI j) M K := m_M_isOn (vIn hj (by omega)) (by rw [nCl (by omega), bi_neg h]; exact H)
theorem isOn_y {j : Nat} (hj : j < 24) {K : Int32 → xSt → Prop} (h : M.1 34 j = 0) (H : K 1 M) : M_M_isOn hm e (nI j) M K := m_M_isOn (vIn hj (by omega)) (by rw [nCl (by omega), bi_pos h]; exact H)
theorem m1_lt : (-1 : Int32) < 0 := by decide
theorem waits_0 {b : Nat} (h : b < 10) (ha : S.1 13 b = -1) {K : Int32 → xSt → Prop} (H : K 0 S) : M_Co_waits hc d (nI b) S K := by
  have ci : (nI b).toNatClampNeg = b := nCl (by omega)
  refine m_Co_waits (vIn h (by omega)) (fun z => ?_) ?_
  · rw [ci, ha] at z; exact absurd m1_lt z.1
  · rw [bi_neg (fun z => by have := z.1.1; rw [ci, ha] at this; exact this m1_lt)]; exact H
theorem waits_f {b k : Nat} (h : b < 10) (hk : k < 10) (ha : S.1 13 b = nI k) (h0 : ¬ S.1 42 k = 0) {K : Int32 → xSt → Prop} (H : K 0 S) : M_Co_waits hc d (nI b) S K := by
  have ci : (nI b).toNatClampNeg = b := nCl (by omega)
  have ck : (nI k).toNatClampNeg = k := nCl (by omega)
  refine m_Co_waits (vIn h (by omega)) (fun z => ?_) ?_
  · rw [ci, ha]; exact vIn (by omega) (by omega)
  · rw [bi_neg (fun z => by have := z.2; rw [ci, ha, ck] at this; exact h0 this)]; exact H
theorem waits_y {nb b k : Nat} (hn : S.1 2 6 = nI nb) (hb : nb ≤ 10) (h : b < nb) (hk : k < nb) (ha : S.1 13 b = nI k) (h0 : S.1 42 k = 0) {K : Int32 → xSt → Prop} (H : K 1 S) : M_Co_waits hc d (nI b) S K := by
  have ci : (nI b).toNatClampNeg = b := nCl (by omega)
  have ck : (nI k).toNatClampNeg = k := nCl (by omega)
  refine m_Co_waits (vIn (by omega) (by omega)) (fun z => ?_) ?_
  · rw [ci, ha]; exact vIn (by omega) (by omega)
  · rw [bi_pos ⟨⟨by rw [ci, ha]; exact nN0 (by omega), by rw [ci, ha, hn]; exact nI_ge hk (by omega)⟩, by rw [ci, ha, ck]; exact h0⟩]; exact H
theorem sim_undoes (hR : Rel S M) (x1 : Int32) : OKi Rel (M_O_undoes hc d x1 S) (M_M_undoes hm e x1 M) := by
  have hR0 := hR
  obtain ⟨nm, nd, nb, nf, hd, st, hP⟩ := hR
  have hP0 := hP
  obtain ⟨hT, hM, hW, hN, hH, hB, hG, hL, hF, hA⟩ := hP
  have hb : nb ≤ 10 := hT.2.2.1.2
  have hb2 : S.1 2 6 = nI nb := hT.2.2.1.1
  obtain ⟨⟨mm, md, mb, -⟩, -, -, hbt, -⟩ := hM
  have hbs := hT.2.2.2.2.2.2.2.2.1
  rcases outC x1 hb2 (by omega) with c | ⟨j, hj, rfl, c1, c2⟩
  · exact ⟨0, S, M, fun K H => e_O_undoes (btnOn_n c (br_t rfl H)), fun K H => e_M_undoes (isBut_n hb2 mb (by omega) c (br_t rfl H)), hR0⟩
  · have nj : M.1 34 j = S.1 42 j := (hN.1 j hj).1
    by_cases on : S.1 42 j = 0
    · have ci : (nI j).toNatClampNeg = j := nCl (by omega)
      have aj : M.1 31 j = S.1 13 j := (hbt j hj).2.2.2.2.2.2
      have v10 : vp_in (nI j) 10 := vIn (by omega) (by omega)
      have go : (∀ (d : Nat) (K : Int32 → xSt → Prop), K 0 S → M_Co_waits hc d (nI j) S K) → (∀ (e : Nat) (K : Int32 → xSt → Prop), B_M_undoes_40 hm e (nI j) M K → (((M.1 31 (nI j).toNatClampNeg) < 0 → B_M_undoes_40 hm e (nI j) M K) ∧ (¬ (M.1 31 (nI j).toNatClampNeg) < 0 → (vp_in (nI j) 10 ∧ M_M_isOn hm (e + 1) (M.1 31 (nI j).toNatClampNeg) M (fun (r3 : Int32) (S3 : xSt) => ((r3 = 0 → B_M_undoes_40 hm e (nI j) S3 K) ∧ (¬ r3 = 0 → K 0 S3))))))) → OKi Rel (M_O_undoes hc d (nI j) S) (M_M_undoes hm e (nI j) M) := by
        intro w1 w2
        obtain ⟨M1, a1, a2, a3, a4⟩ := act2 hc hm hP0
        obtain ⟨S2, s1, -, s3⟩ := a4 _ _ (hN.state hb hj 2)
        have q4 : M1.1 34 = M.1 34 := a2 _ (by decide) (by decide)
        refine ⟨1, S2, _, fun K H => e_O_undoes (btnOn_y (by omega) c1 c2 on (br_f (by decide) (w1 _ _ (br_t rfl (e_Co_unbutton ⟨vIn (by omega) (by omega), by rw [ci, pI_A]; exact s1 _ _ H⟩))))), fun K H => e_M_undoes (isBut_y hb2 mb (by omega) c1 c2 (br_f (by decide) (isOn_y (by omega) (nj.trans on) (br_f (by decide) ⟨v10, w2 _ _ (b_M_undoes_40 (a1 _ _ ⟨vIn (by omega) (by omega), by rw [ci, pI_A, q4]; exact H⟩))⟩)))), nm, nd, nb, nf, hd, st, s3⟩
      rcases (hbs j hj).2.2.2.2.2.2 with h | ⟨k, hk, h⟩
      · exact go (fun d K H => waits_0 (by omega) h H) (fun e K H => br_t (by rw [ci, aj, h]; exact m1_lt) H)
      · have nk : M.1 34 k = S.1 42 k := (hN.1 k (by omega)).1
        have nn : ¬ M.1 31 (nI j).toNatClampNeg < 0 := by rw [ci, aj, h]; exact nN0 (by omega)
        by_cases on2 : S.1 42 k = 0
        · exact ⟨0, S, M, fun K H => e_O_undoes (btnOn_y (by omega) c1 c2 on (br_f (by decide) (waits_y hb2 hb hj (by omega) h on2 (br_f (by decide) H)))), fun K H => e_M_undoes (isBut_y hb2 mb (by omega) c1 c2 (br_f (by decide) (isOn_y (by omega) (nj.trans on) (br_f (by decide) ⟨v10, br_f nn ⟨v10, by rw [ci, aj, h]; exact isOn_y (by omega) (nk.trans on2) (br_f (by decide) H)⟩⟩)))), hR0⟩
        · exact go (fun d K H => waits_f (by omega) (by omega) h on2 H) (fun e K H => br_f nn ⟨v10, by rw [ci, aj, h]; exact isOn_n (by omega) (by rw [nk]; exact on2) (br_t rfl H)⟩)
    · exact ⟨0, S, M, fun K H => e_O_undoes (btnOn_f (by omega) on (br_t rfl H)), fun K H => e_M_undoes (isBut_y hb2 mb (by omega) c1 c2 (br_f (by decide) (isOn_n (by omega) (by rw [nj]; exact on) (br_t rfl H)))), hR0⟩
theorem sim_cut (hR : Rel S M) (x1 : Int32) : OKi Rel (M_O_cut hc d x1 S) (M_M_cut hm e x1 M) := by
  have hR0 := hR
  obtain ⟨nm, nd, nb, nf, hd, st, hP⟩ := hR
  have hP0 := hP
  obtain ⟨hT, hM, hW, hN, hH, hB, hG, hL, hF, hA⟩ := hP
  have hb : nb ≤ 10 := hT.2.2.1.2
  have hb2 : S.1 2 6 = nI nb := hT.2.2.1.1
  obtain ⟨⟨mm, md, mb, -⟩, -, -, hbt, -⟩ := hM
  rcases outC x1 hb2 (by omega) with c | ⟨j, hj, rfl, c1, c2⟩
  · exact ⟨_, S, M, fun K H => e_O_cut (btnOn_n c (br_t rfl H)), fun K H => e_M_cut (isBut_n hb2 mb (by omega) c (br_t rfl H)), hR0⟩
  · have nj : M.1 34 j = S.1 42 j := (hN.1 j hj).1
    by_cases on : S.1 42 j = 0
    · have ci : (nI j).toNatClampNeg = j := nCl (by omega)
      obtain ⟨k, hk, ek⟩ := hN.2.2.2.2.2
      have nk : M.1 34 22 = nI k := hN.2.2.2.1.trans ek
      by_cases k3 : k = 3
      · subst k3
        exact ⟨_, S, M, fun K H => e_O_cut (btnOn_y (by omega) c1 c2 on (br_f (by decide) (m_Co_cuts (br_f (by rw [ek]; decide) H)))), fun K H => e_M_cut (isBut_y hb2 mb (by omega) c1 c2 (br_f (by decide) (isOn_y (by omega) (nj.trans on) (br_f (by decide) (br_nt nk H))))), hR0⟩
      · obtain ⟨M1, a1, a2, a3, a4⟩ := act2 hc hm hP0
        obtain ⟨S2, s1, s2, s3⟩ := a4 _ _ ((hN.state hb hj 2).cuts hb (v := nI k + 1) ⟨k + 1, by omega, nI_1 k⟩)
        have q4 : M1.1 34 = M.1 34 := a2 _ (by decide) (by decide)
        have p1 : upd (S.1 42) j 2 22 = nI k := by rw [up_n _ _ (by omega)]; exact ek
        have p2 : upd (M.1 34) j 2 22 = nI k := by rw [up_n _ _ (by omega)]; exact nk
        have lt3 : S.1 42 22 < 3 := by rw [ek]; exact nI_lt (b := 3) (by omega) (by omega)
        have ne3 : ¬ M.1 34 22 = 3 := by rw [nk]; exact fun z => k3 ((nEq (b := 3) (by omega) (by omega)).mp z)
        refine ⟨nI k + 1, S2, x_putA M1 34 (upd (upd (M.1 34) j 2) 22 (nI k + 1)), fun K H => e_O_cut (btnOn_y (by omega) c1 c2 on (br_f (by decide) (m_Co_cuts (br_t lt3 (e_Co_cutOff ⟨vIn (by omega) (by omega), ?_⟩))))), fun K H => e_M_cut (isBut_y hb2 mb (by omega) c1 c2 (br_f (by decide) (isOn_y (by omega) (nj.trans on) (br_f (by decide) (br_nf ne3 (a1 _ _ ⟨vIn (by omega) (by omega), ?_⟩)))))), nm, nd, nb, nf, hd, st, s3⟩
        · rw [ci, pI_A S, gA_s, p1, pI_pA]
          refine s1 _ _ (m_Co_cuts ?_)
          rw [s2, up_s]; exact H
        · rw [ci, pI_A M1, gA_s, q4, p2, pI_pA]; exact H
    · exact ⟨_, S, M, fun K H => e_O_cut (btnOn_f (by omega) on (br_t rfl H)), fun K H => e_M_cut (isBut_y hb2 mb (by omega) c1 c2 (br_f (by decide) (isOn_n (by omega) (by rw [nj]; exact on) (br_t rfl H)))), hR0⟩
theorem sim_sew (hR : Rel S M) (x1 : Int32) : OKi Rel (M_O_sew hc d x1 S) (M_M_sew hm e x1 M) := by
  have hR0 := hR
  obtain ⟨nm, nd, nb, nf, hd, st, hP⟩ := hR
  have hP0 := hP
  obtain ⟨hT, hM, hW, hN, hH, hB, hG, hL, hF, hA⟩ := hP
  have hb : nb ≤ 10 := hT.2.2.1.2
  have hb2 : S.1 2 6 = nI nb := hT.2.2.1.1
  obtain ⟨⟨mm, md, mb, -⟩, -, -, hbt, -⟩ := hM
  have hbs := hT.2.2.2.2.2.2.2.2.1
  rcases outC x1 hb2 (by omega) with c | ⟨j, hj, rfl, c1, c2⟩
  · exact ⟨_, S, M, fun K H => e_O_sew (hBut_n c (br_nt rfl H)), fun K H => e_M_sew (isBut_n hb2 mb (by omega) c (br_t rfl H)), hR0⟩
  · have nj : M.1 34 j = S.1 42 j := (hN.1 j hj).1
    have tj : M.1 34 (10 + j) = S.1 42 (10 + j) := (hN.1 j hj).2.1
    have ci : (nI j).toNatClampNeg = j := nCl (by omega)
    have e10 : (10 : Int32) + nI j = nI (10 + j) := by rw [show (10 : Int32) = nI 10 from rfl, nI_add]
    have c10 : ((10 : Int32) + nI j).toNatClampNeg = 10 + j := by rw [e10]; exact nCl (by omega)
    have v23 : vp_in (nI j) 23 := vIn (by omega) (by omega)
    have v24 : vp_in (nI j) 24 := vIn (by omega) (by omega)
    have v10 : vp_in (nI j) 10 := vIn (by omega) (by omega)
    have w23 : vp_in ((10 : Int32) + nI j) 23 := by rw [e10]; exact vIn (by omega) (by omega)
    have w24 : vp_in ((10 : Int32) + nI j) 24 := by rw [e10]; exact vIn (by omega) (by omega)
    have go : S.1 42 j = 0 ∨ S.1 42 j = 4 → OKi Rel (M_O_sew hc d (nI j) S) (M_M_sew hm e (nI j) M) := by
      intro hst
      obtain ⟨M1, a1, a2, a3, a4⟩ := act2 hc hm hP0
      obtain ⟨S2, s1, s2, s3⟩ := a4 _ _ ((hN.state hb hj 0).thread hb hj (v := S.1 12 j) (by
        obtain ⟨k, k1, k2, k3⟩ := (hbs j hj).2.2.2.2.2.1
        exact ⟨k, k2, k3⟩))
      have q4 : M1.1 34 = M.1 34 := a2 _ (by decide) (by decide)
      have q5 : M1.1 30 j = S.1 12 j := by rw [a2 30 (by decide) (by decide)]; exact (hbt j hj).2.2.2.2.2.1
      have runC : ∀ K : Int32 → xSt → Prop, K (S.1 42 (10 + j)) S2 → B_O_sew_38 hc d (nI j) S K := by
        intro K H
        refine b_O_sew_38 (m_Co_threadOf w23 (e_Co_sewAnew ⟨v23, v10, w23, ?_⟩))
        rw [ci, c10, pI_A S, pI_pA]
        exact s1 _ _ H
      have runM : ∀ K : Int32 → xSt → Prop, K (S.1 42 (10 + j)) (x_putA M1 34 (upd (upd (M.1 34) j 0) (10 + j) (S.1 12 j))) → B_M_sew_28 hm e (nI j) M K := by
        intro K H
        refine b_M_sew_28 (a1 _ _ ⟨w24, v24, v10, w24, ?_⟩)
        rw [ci, c10, pI_A M1, pI_pA, q4, q5, tj]; exact H
      refine ⟨S.1 42 (10 + j), S2, _, fun K H => e_O_sew (hBut_y c1 c2 (br_nf (by decide) (m_Co_stateOf v23 ?_))), fun K H => e_M_sew (isBut_y hb2 mb (by omega) c1 c2 (br_f (by decide) ?_)), nm, nd, nb, nf, hd, st, s3⟩
      · rw [ci]
        rcases hst with h | h
        · exact br_t h (runC K H)
        · refine br_f (by rw [h]; decide) (m_Co_stateOf v23 ?_)
          rw [ci]; exact br_t h (runC K H)
      · rcases hst with h | h
        · exact isOn_y (by omega) (nj.trans h) (br_nf (by decide) (runM K H))
        · exact isOn_n (by omega) (by rw [nj, h]; decide) (br_nt rfl ⟨v24, br_t (by rw [ci, nj]; exact h) (runM K H)⟩)
    by_cases on : S.1 42 j = 0
    · exact go (Or.inl on)
    · by_cases lost : S.1 42 j = 4
      · exact go (Or.inr lost)
      · refine ⟨-1, S, M, fun K H => e_O_sew (hBut_y c1 c2 (br_nf (by decide) (m_Co_stateOf v23 ?_))), fun K H => e_M_sew (isBut_y hb2 mb (by omega) c1 c2 (br_f (by decide) (isOn_n (by omega) (by rw [nj]; exact on) (br_nt rfl ⟨v24, br_f (by rw [ci, nj]; exact lost) H⟩)))), hR0⟩
        rw [ci]
        refine br_f on (m_Co_stateOf v23 ?_)
        rw [ci]; exact br_f lost H
end
