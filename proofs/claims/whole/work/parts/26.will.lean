section
variable {hc hm : xH} {d e : Nat} {S M : xSt}
abbrev eq1 (S S' : xSt) : Prop := ∀ c, c ≠ 17 → S'.1 c = S.1 c
theorem eq1.two {S' : xSt} (h : eq1 S S') : eq2 S S' := fun c h1 _ => h c h1
theorem eq1.hol {S' : xSt} (h : eq1 S S') (b : Nat) : hol S' b = hol S b := by
  show S'.1 4 (S'.1 8 b).toNatClampNeg = _
  rw [h 4 (by decide), h 8 (by decide)]
/-- a button behind i days of drawn weather: how it is, its thread, the seed -/
def wIt (S : xSt) (n : Nat) (step arg : Nat → Int32) (b : Nat) : Nat → Int32 × Int32 × Int32
  | 0 => (S.1 42 b, S.1 42 (10 + b), S.1 42 21)
  | i + 1 => (nS S n step arg (wIt S n step arg b i).1 (wIt S n step arg b i).2.1 (stoN S (sdN (wIt S n step arg b i).2.2)) (S.1 42 20 + nI i) b, nT S n step arg (wIt S n step arg b i).1 (wIt S n step arg b i).2.1 (stoN S (sdN (wIt S n step arg b i).2.2)) (S.1 42 20 + nI i) b, sdN (wIt S n step arg b i).2.2)
theorem wIt_stop {n b i : Nat} {step arg : Nat → Int32} (h : ¬ (wIt S n step arg b i).1 = 0) (k : Nat) : (wIt S n step arg b (i + k)).1 = (wIt S n step arg b i).1 := by
  induction k with
  | zero => rfl
  | succ k ih =>
    show nS S n step arg (wIt S n step arg b (i + k)).1 _ _ _ b = _
    unfold nS
    rw [if_neg (by rw [ih]; exact h)]; exact ih
theorem m_stateBehind {nm nb n b N : Nat} {step arg : Nat → Int32} (hW : WP nm nb n step arg S) (hb : b < nb) (hN : N ≤ 60) {K : Int32 → xSt → Prop} (H : ∀ S', eq1 S S' → K (wIt S n step arg b N).1 S') : M_Th_stateBehind hc d (nI b) (nI N) S K := by
  have hb10 := hW.2.1.2
  have ci : (nI b).toNatClampNeg = b := nCl (by omega)
  have e10 : (10 : Int32) + nI b = nI (10 + b) := by rw [show (10 : Int32) = nI 10 from rfl, nI_add]
  have c10 : ((10 : Int32) + nI b).toNatClampNeg = 10 + b := by rw [e10]; exact nCl (by omega)
  have v23 : vp_in (nI b) 23 := vIn (by omega) (by omega)
  have w23 : vp_in ((10 : Int32) + nI b) 23 := by rw [e10]; exact vIn (by omega) (by omega)
  refine e_Th_stateBehind (m_Co_stateOf v23 (m_Co_threadOf w23 (m_Co_seed ?_)))
  rw [ci, c10]
  refine lp_inv (B := fun i (q : xSt) => B_Th_stateBehind_31 hc d (nI b) (nI N) (wIt S n step arg b i).1 (wIt S n step arg b i).2.1 (wIt S n step arg b i).2.2 (nI i) q K) (fun i q => eq1 S q) N (fun i q hi hI ih => ?_) (fun q hI => ?_) S (fun c _ => rfl)
  · refine b_Th_stateBehind_31 (br_f (nI_ge hi (by omega)) ?_)
    by_cases on : (wIt S n step arg b i).1 = 0
    · refine br_nt on (m_Co_today (m_Co_nextSeed (m_Co_stormBy (m_worn (hW.congr hI.two) hb (fun f => m_Co_stateAfterWear (fun _ => vIn (by omega) (by omega)) (fun _ _ => vIn (by omega) (by omega)) ?_)))))
      rw [hI.hol, ci, nI_1, hI 42 (by decide), hI 2 (by decide)]
      have q1 : (x_putA q 17 f).1 11 = S.1 11 := hI 11 (by decide)
      have q2 : (x_putA q 17 f).1 10 = S.1 10 := hI 10 (by decide)
      rw [q1, q2]
      have et : (wIt S n step arg b (i + 1)).2.1 = (wIt S n step arg b i).2.1 - clmp (wIt S n step arg b i).2.1 (wAmt n step arg (wIt S n step arg b i).2.1 (hol S b) (stoN S (sdN (wIt S n step arg b i).2.2)) (S.1 42 20 + nI i)) := by
        show nT S n step arg (wIt S n step arg b i).1 _ _ _ b = _
        unfold nT; rw [if_pos on]
      have es : (wIt S n step arg b (i + 1)).1 = stA S b (wIt S n step arg b (i + 1)).2.1 (S.1 42 20 + nI i + 1) := by
        show nS S n step arg (wIt S n step arg b i).1 _ _ _ b = _
        unfold nS; rw [if_pos on]; rfl
      have g := ih (x_putA q 17 f) (fun c hc => (gA_n _ _ hc).trans (hI c hc))
      rw [es, et] at g
      exact g
    · refine br_nf on ?_
      have := wIt_stop on (N - i)
      rw [show i + (N - i) = N by omega] at this
      rw [← this]; exact H q hI
  · exact b_Th_stateBehind_31 (br_t (nI_le (Nat.le_refl _) (by omega)) (H q hI))
theorem wIt_N {n b : Nat} {step arg : Nat → Int32} (h : ∃ k, k ≤ 99 ∧ S.1 42 (10 + b) = nI k) : ∀ i, ∃ k, k ≤ 99 ∧ (wIt S n step arg b i).2.1 = nI k := by
  intro i
  induction i with
  | zero => exact h
  | succ i ih =>
    obtain ⟨k, hk, ek⟩ := ih
    obtain ⟨k', h1, h2⟩ := nT_N (S := S) (n := n) (step := step) (arg := arg) (s := (wIt S n step arg b i).1) (sto := stoN S (sdN (wIt S n step arg b i).2.2)) (D := S.1 42 20 + nI i) (b := b) hk
    refine ⟨k', by omega, ?_⟩
    show nT S n step arg _ (wIt S n step arg b i).2.1 _ _ b = _
    rw [ek]; exact h2
theorem sim_will (hR : Rel S M) (x1 x2 : Int32) : OK2 Rel (M_O_will hc d x1 x2 S) (M_M_will hm e x1 x2 M) := by
  have hR0 := hR
  obtain ⟨nm, nd, nb, nf, hd, st, hP⟩ := hR
  have hN : Row nb (S.1 42) (M.1 34) := hP.2.2.2.1
  have hb : nb ≤ 10 := hP.1.2.2.1.2
  have eb := hP.1.2.2.1.1
  have em : M.1 0 58 = S.1 2 6 := hP.2.1.1.2.2.1
  obtain ⟨n, hW, hD⟩ := hP.wp
  rcases outC x1 eb (by omega) with c | ⟨b, hb1, rfl, c1, c2⟩
  · exact e_O_will (hBut_n c (br_t rfl (e_M_will (isBut_n eb em (by omega) c (br_t rfl ⟨rfl, hR0⟩)))))
  refine e_O_will (hBut_y c1 c2 (br_f (by decide) ?_))
  rcases nOf x2 with c | ⟨N, hN1, rfl⟩
  · exact br_t c (e_M_will (isBut_y eb em (by omega) c1 c2 (br_f (by decide) (isIn_n (fun z => z.1 c) (br_nt rfl ⟨rfl, hR0⟩)))))
  · refine br_f (nN0 hN1) ?_
    by_cases c60 : N ≤ 60
    · refine br_t (nI_le (b := 60) c60 (by omega)) (m_stateBehind hW hb1 c60 (fun S' hS => e_M_will (isBut_y eb em (by omega) c1 c2 (br_f (by decide) (isIn_y ⟨nN0 hN1, by rw [show (60 : Int32) = nI 60 from rfl, nLt (by omega) hN1]; omega⟩ (br_nf (by decide) (m_load (fun M1 f1 f2 f3 f4 => ?_))))))))
      refine lp_inv (B := fun i (q : xSt) => B_M_will_26 hm e (nI b) (nI N) (nI i) q _) (fun i q => FrD M q ∧ q.1 0 73 = S.1 42 20 + nI i ∧ (∀ b, b < nb → q.1 36 b = (wIt S n (M.1 5) (M.1 6) b i).1 ∧ q.1 37 b = (wIt S n (M.1 5) (M.1 6) b i).2.1 ∧ q.1 0 74 = (wIt S n (M.1 5) (M.1 6) b i).2.2)) N (fun i q hi hI ih => ?_) (fun q hI => ?_) M1 ⟨f1, ?_, fun b q => ⟨?_, ?_, ?_⟩⟩
      · obtain ⟨q1, q2, q3⟩ := hI
        have es : q.1 5 = M.1 5 := q1.1 _ (by decide) (by decide) (by decide) (by decide) (by decide)
        have ea : q.1 6 = M.1 6 := q1.1 _ (by decide) (by decide) (by decide) (by decide) (by decide)
        refine b_M_will_26 (br_f (nI_ge hi (by omega)) (m_goDay (hD.fr q1) (fun b hb' => ?_) (fun M3 g1 g2 g3 g4 g5 => ?_)))
        · rw [(q3 b hb').2.1]; exact wIt_N (hN.1 b hb').2.2 i
        · rw [nI_1]
          refine ih M3 ⟨q1.tr g1, ?_, fun b hb' => ?_⟩
          · rw [g2, q2, Int32.add_assoc, nI_1]
          · obtain ⟨u1, u2, u3⟩ := q3 b hb'
            obtain ⟨v1, v2⟩ := g4 b hb'
            rw [v1, v2, g3, u1, u2, u3, es, ea, q2]
            exact ⟨rfl, rfl, rfl⟩
      · obtain ⟨q1, q2, q3⟩ := hI
        refine b_M_will_26 (br_t (nI_le (Nat.le_refl _) (by omega)) ⟨vIn (by omega) (by omega), ?_, nm, nd, nb, nf, hd, st, hP.same (fun c hc => hS c (by revert c; decide)) (hS _ (by decide)) (hS _ (by decide)) (hS _ (by decide)) (fun c hc => ?_) (fun j hj => ?_) ?_ ?_ ?_ ?_⟩)
        · rw [nCl (by omega)]; exact (q3 b hb1).1
        · have z : c ≠ 0 ∧ c ≠ 8 ∧ c ≠ 9 ∧ c ≠ 36 ∧ c ≠ 37 := by revert c; decide
          exact q1.1 c z.1 z.2.1 z.2.2.1 z.2.2.2.1 z.2.2.2.2
        · have z : j ≠ 73 ∧ j ≠ 74 := by revert j; decide
          exact q1.2 j z.1 z.2
        · exact q1.1 _ (by decide) (by decide) (by decide) (by decide) (by decide)
        · exact q1.1 _ (by decide) (by decide) (by decide) (by decide) (by decide)
        · exact q1.2 _ (by decide) (by decide)
        · exact q1.2 _ (by decide) (by decide)
      · rw [f2, hN.2.1, nI_0, Int32.add_zero]
      · rw [(f4 b (by omega)).1]; exact (hN.1 b q).1
      · rw [(f4 b (by omega)).2]; exact (hN.1 b q).2.1
      · rw [f3]; exact hN.2.2.1
    · have cc : ¬ nI N ≤ 60 := by rw [show (60 : Int32) = nI 60 from rfl, nLe hN1 (by omega)]; exact c60
      refine br_f cc (e_M_will (isBut_y eb em (by omega) c1 c2 (br_f (by decide) (isIn_n (fun z => z.2 ?_) (br_nt rfl ⟨rfl, hR0⟩)))))
      exact nI_lt (a := 60) (by omega) hN1
end
