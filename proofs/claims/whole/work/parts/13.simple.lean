section
theorem br_nt {c A B : Prop} (h : c) (b : B) : (¬ c → A) ∧ (c → B) := ⟨fun n => absurd h n, fun _ => b⟩
theorem br_nf {c A B : Prop} (h : ¬ c) (a : A) : (¬ c → A) ∧ (c → B) := ⟨fun _ => a, fun n => absurd n h⟩
theorem vIn {j n : Nat} (h : j < n) (hn : n ≤ 2000000) : vp_in (nI j) n := vp_in_nI h (by omega)
theorem vIn' {x : Int32} {j n : Nat} (e : x = nI j) (h : j < n) (hn : n ≤ 2000000) : vp_in x n := by rw [e]; exact vIn h hn
/-- an index against a count: outside, or a number -/
theorem ixC (x : Int32) {v : Int32} {n : Nat} (e : v = nI n) (hn : n ≤ 2000000) : x < 0 ∨ (¬ x < 0 ∧ v ≤ x) ∨ ∃ j, j < n ∧ x = nI j ∧ ¬ x < 0 ∧ ¬ v ≤ x := by
  subst e
  rcases nIx x (n := n) (by omega) with h | h | ⟨j, h1, h2⟩
  · exact Or.inl h
  · by_cases c : x < 0
    · exact Or.inl c
    · exact Or.inr (Or.inl ⟨c, h⟩)
  · subst h2
    exact Or.inr (Or.inr ⟨j, h1, rfl, nN0 (by omega), by rw [nLe (by omega) (by omega)]; omega⟩)
/-- the reference's way to say it: least 0, most one less -/
theorem ixM {x v w : Int32} {n : Nat} (e : v = nI n) (hw : w = v) (hn : n ≤ 2000000) : (¬ (x < 0) ∧ ¬ (w - 1) < x) ↔ (¬ x < 0 ∧ ¬ v ≤ x) := by
  subst hw
  subst e
  refine and_congr_right (fun h => not_congr ?_)
  rcases nOf x with c | ⟨j, hj, rfl⟩
  · exact absurd c h
  · cases n with
    | zero =>
      constructor
      · intro _; exact nI_le (by omega) hj
      · intro _
        rw [Int32.lt_iff_toInt_lt, nI_toInt hj]
        have : (nI 0 - 1 : Int32).toInt = -1 := by decide
        omega
    | succ n => rw [nI_pred, nLt (by omega) hj, nLe (by omega) hj]; omega
variable {hc hm : xH} {d e : Nat} {S M : xSt}
theorem sim_end (hR : Rel S M) (x1 : Int32) : OKi Rel (M_O_end hc d x1 S) (M_M_end hm e x1 M) := by
  have hR0 := hR
  obtain ⟨nm, nd, nb, nf, hd, st, hT, hM, hW, hN, hH, hB, hG, hL, hF, n, hn, e1, e2, hb⟩ := hR
  by_cases c1 : x1 < 0
  · exact ⟨_, S, M, fun K H => e_O_end (br_t c1 H), fun K H => e_M_end (br_t c1 H), hR0⟩
  · obtain ⟨j, hj, rfl⟩ := nI_of c1
    by_cases c2 : j ≤ n
    · have c3 : nI j ≤ S.1 0 1 := by rw [e1]; exact nI_le c2 (by omega)
      have c4 : nI j ≤ M.1 0 1 := by rw [e2]; exact nI_le c2 (by omega)
      exact ⟨_, _, _, fun K H => e_O_end (br_f c1 (br_t c3 H)), fun K H => e_M_end (br_f c1 (br_t c4 H)), nm, nd, nb, nf, hd, st, hT, hM, hW, hN, hH, hB, hG, hL, hF, j, by omega, rfl, rfl, fun i hi => hb i (by omega)⟩
    · have c3 : ¬ nI j ≤ S.1 0 1 := by rw [e1, nLe hj (by omega)]; exact c2
      have c4 : ¬ nI j ≤ M.1 0 1 := by rw [e2, nLe hj (by omega)]; exact c2
      exact ⟨_, S, M, fun K H => e_O_end (br_f c1 (br_f c3 H)), fun K H => e_M_end (br_f c1 (br_f c4 H)), hR0⟩
theorem sim_fault (hR : Rel S M) (x1 : Int32) : OKi Rel (M_O_fault hc d x1 S) (M_M_fault hm e x1 M) := by
  refine ⟨_, S, M, fun K H => m_O_fault H, fun K H => m_M_fault ?_, hR⟩
  obtain ⟨nm, nd, nb, nf, hd, st, hT, hM, hW, hN, hH, hB, hG, hL, ⟨f1, f2⟩, hA⟩ := hR
  rw [f1, f2]; exact H
theorem sim_later (hR : Rel S M) (x1 : Int32) : OKi Rel (M_O_later hc d x1 S) (M_M_later hm e x1 M) := by
  have hR0 := hR
  obtain ⟨nm, nd, nb, nf, hd, st, hT, hM, hW, hN, hH, hB, ⟨n, t, h1, h2, e1, e2, e3, e4, ht⟩, hL, hF, hA⟩ := hR
  by_cases c1 : x1 < 0
  · exact ⟨_, S, M, fun K H => e_O_later (br_t c1 H), fun K H => e_M_later (br_t c1 H), hR0⟩
  · by_cases c2 : 1000 < x1
    · exact ⟨_, S, M, fun K H => e_O_later (br_f c1 (br_t c2 H)), fun K H => e_M_later (br_f c1 (br_t c2 H)), hR0⟩
    · obtain ⟨j, hj, rfl⟩ := nI_of c1
      have hj2 : j ≤ 1000 := by
        rcases Nat.lt_or_ge 1000 j with q | q
        · exact absurd (show nI 1000 < nI j from nI_lt q hj) c2
        · exact q
      by_cases c3 : t + j ≤ 100000
      · have c4 : S.1 57 7 + nI j ≤ 100000 := by rw [e2, nI_add]; exact nI_le c3 (by decide)
        have c5 : M.1 0 94 + nI j ≤ 100000 := by rw [e4, nI_add]; exact nI_le c3 (by decide)
        have ea : M.1 0 94 + nI j = S.1 57 7 + nI j := by rw [e2, e4]
        refine ⟨_, _, x_putI M 0 94 (S.1 57 7 + nI j), fun K H => e_O_later (br_f c1 (br_f c2 (br_t c4 H))), fun K H => e_M_later (br_f c1 (br_f c2 (br_t c5 (by rw [ea]; exact H)))), nm, nd, nb, nf, hd, st, hT, hM, hW, hN, hH, hB, ⟨n, t + j, h1, c3, e1, ?_, e3, ?_, ht⟩, hL, hF, hA⟩
        · show S.1 57 7 + nI j = _
          rw [e2, nI_add]
        · show S.1 57 7 + nI j = _
          rw [e2, nI_add]
      · have c4 : ¬ S.1 57 7 + nI j ≤ 100000 := by rw [e2, nI_add, show (100000 : Int32) = nI 100000 from rfl, nLe (by omega) (by omega)]; exact c3
        have c5 : ¬ M.1 0 94 + nI j ≤ 100000 := by rw [e4, nI_add, show (100000 : Int32) = nI 100000 from rfl, nLe (by omega) (by omega)]; exact c3
        exact ⟨_, S, M, fun K H => e_O_later (br_f c1 (br_f c2 (br_f c4 H))), fun K H => e_M_later (br_f c1 (br_f c2 (br_f c5 H))), hR0⟩
theorem sim_lies (hR : Rel S M) (x1 : Int32) : OKi Rel (M_O_lies hc d x1 S) (M_M_lies hm e x1 M) := by
  have hR0 := hR
  obtain ⟨nm, nd, nb, nf, hd, st, hT, hM, hW, hN, hH, hB, hG, ⟨n, hn, e1, e2, ht⟩, hF, hA⟩ := hR
  have q := ixM (x := x1) e1 (e2.trans e1.symm) (by omega)
  rcases ixC x1 e1 (by omega) with c | c | ⟨j, hj, rfl, c1, c2⟩
  · exact ⟨_, S, M, fun K H => e_O_lies (br_t c H), fun K H => m_M_lies (fun z => absurd c (q.mp z).1) (by rw [if_neg (fun z => absurd c (q.mp z).1)]; exact H), hR0⟩
  · exact ⟨_, S, M, fun K H => e_O_lies (br_f c.1 (br_t c.2 H)), fun K H => m_M_lies (fun z => absurd c.2 (q.mp z).2) (by rw [if_neg (fun z => absurd c.2 (q.mp z).2)]; exact H), hR0⟩
  · have v := vIn (n := 10) (show j < 10 by omega) (by omega)
    refine ⟨_, S, M, fun K H => e_O_lies (br_f c1 (br_f c2 ⟨v, H⟩)), fun K H => m_M_lies (fun _ => v) ?_, hR0⟩
    rw [if_pos (q.mpr ⟨c1, c2⟩), nCl (by omega), ht j hj]
    rw [nCl (by omega)] at H
    exact H
end
