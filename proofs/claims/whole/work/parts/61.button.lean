section
variable {hc hm : xH} {d e : Nat} {S M : xSt}
section
variable {t : Nat → Nat} {n k v q p nm nd nb nf hd st : Nat} {l : List Nat}
theorem DR_button {S' M' : xSt} (h : DR nm nd nb nf hd st S M) (h6 : nb < 10) {i1 i2 i3 r6 r7 : Nat} (hi1 : i1 < nm) (hi2 : i2 < nm) (hi3 : i3 < nd) (hr6 : 1 ≤ r6 ∧ r6 ≤ 60) (hr7 : 1 ≤ r7 ∧ r7 ≤ 99)
    (s1 : ∀ c, c ≠ 19 → c ≠ 21 → c < 26 ∨ 32 < c → S'.1 c = S.1 c) (s2 : ∀ j, j ≠ 6 → S'.1 21 j = S.1 21 j) (s3 : S'.1 21 6 = nI (nb + 1)) (s4 : ∀ c, 26 ≤ c → c ≤ 32 → ∀ i, i ≠ nb → S'.1 c i = S.1 c i)
    (v26 : S'.1 26 nb = nI i1) (v27 : S'.1 27 nb = nI i2) (v28 : S'.1 28 nb = nI i3) (v29 : S'.1 29 nb = 0 ∨ S'.1 29 nb = 1) (v30 : S'.1 30 nb = nI r6) (v31 : S'.1 31 nb = nI r7) (v32 : S'.1 32 nb = -1 ∨ ∃ k, k < nb ∧ S'.1 32 nb = nI k)
    (m1 : ∀ c, c ≠ 0 → c < 20 ∨ (25 < c ∧ c ≠ 32) → M'.1 c = M.1 c) (m2 : ∀ j, j < 2 ∨ 8 < j → j ≠ 51 → M'.1 0 j = M.1 0 j) (m3 : M'.1 0 51 = nI (nb + 1)) (m4 : ∀ c, (20 ≤ c ∧ c ≤ 25) ∨ c = 32 → ∀ i, i ≠ nb → M'.1 c i = M.1 c i)
    (w20 : M'.1 20 nb = S'.1 26 nb) (w21 : M'.1 21 nb = S'.1 27 nb) (w22 : M'.1 22 nb = S'.1 28 nb) (w32 : M'.1 32 nb = S'.1 29 nb) (w23 : M'.1 23 nb = S'.1 30 nb) (w24 : M'.1 24 nb = S'.1 31 nb) (w25 : M'.1 25 nb = S'.1 32 nb)
    (n1 : NRel 38 0 nm S' M') (n2 : NRel 39 6 nd S' M') (n3 : NRel 40 12 (nb + 1) S' M') : DR nm nd (nb + 1) nf hd st S' M' := by
  obtain ⟨⟨t1, t2, t3, t4, t5, t6, t7, t8, t9, t10, t11⟩, ⟨⟨r1, r2, r3, r4, r5, r6'⟩, r7', r8, r9, r10⟩, w, o, -, sn, dr⟩ := h
  refine ⟨⟨?_, ?_, ⟨s3, by omega⟩, ?_, ?_, ?_, ?_, ?_, fun b' hb' => ?_, ?_, ?_⟩, ⟨⟨?_, ?_, ?_, ?_, ?_, ?_⟩, ?_, ?_, fun b' hb' => ?_, ?_⟩, ?_, ?_, ⟨n1, n2, n3⟩, ?_, ?_⟩
  · rw [s2 0 (by decide)]; exact t1
  · rw [s2 4 (by decide)]; exact t2
  · rw [s2 14 (by decide)]; exact t4
  · rw [s2 17 (by decide)]; exact t5
  · rw [s2 18 (by decide)]; exact t6
  · rw [s1 22 (by decide) (by decide) (by decide), s1 23 (by decide) (by decide) (by decide), s1 24 (by decide) (by decide) (by decide)]; exact t7
  · rw [s1 25 (by decide) (by decide) (by decide)]; exact t8
  · by_cases y : b' = nb
    · rw [y]; exact ⟨⟨i1, hi1, v26⟩, ⟨i2, hi2, v27⟩, ⟨i3, hi3, v28⟩, v29, ⟨r6, hr6.1, hr6.2, v30⟩, ⟨r7, hr7.1, hr7.2, v31⟩, v32⟩
    · rw [s4 26 (by decide) (by decide) b' y, s4 27 (by decide) (by decide) b' y, s4 28 (by decide) (by decide) b' y, s4 29 (by decide) (by decide) b' y, s4 30 (by decide) (by decide) b' y, s4 31 (by decide) (by decide) b' y, s4 32 (by decide) (by decide) b' y]; exact t9 b' (by omega)
  · rw [s1 33 (by decide) (by decide) (by decide)]; exact t10
  · rw [s1 33 (by decide) (by decide) (by decide)]; exact t11
  · rw [m2 49 (by decide) (by decide), s2 0 (by decide)]; exact r1
  · rw [m2 50 (by decide) (by decide), s2 4 (by decide)]; exact r2
  · rw [m3, s3]
  · rw [m2 52 (by decide) (by decide), s2 14 (by decide)]; exact r4
  · rw [m2 53 (by decide) (by decide), s2 17 (by decide)]; exact r5
  · rw [m2 54 (by decide) (by decide), s2 18 (by decide)]; exact r6'
  · rw [s1 22 (by decide) (by decide) (by decide), s1 23 (by decide) (by decide) (by decide), s1 24 (by decide) (by decide) (by decide), m1 10 (by decide) (by decide), m1 11 (by decide) (by decide), m1 12 (by decide) (by decide)]; exact r7'
  · rw [s1 25 (by decide) (by decide) (by decide), m1 13 (by decide) (by decide)]; exact r8
  · by_cases y : b' = nb
    · rw [y]; exact ⟨w20, w21, w22, w32, w23, w24, w25⟩
    · rw [s4 26 (by decide) (by decide) b' y, s4 27 (by decide) (by decide) b' y, s4 28 (by decide) (by decide) b' y, s4 29 (by decide) (by decide) b' y, s4 30 (by decide) (by decide) b' y, s4 31 (by decide) (by decide) b' y, s4 32 (by decide) (by decide) b' y, m4 20 (by decide) b' y, m4 21 (by decide) b' y, m4 22 (by decide) b' y, m4 23 (by decide) b' y, m4 24 (by decide) b' y, m4 25 (by decide) b' y, m4 32 (by decide) b' y]; exact r9 b' (by omega)
  · rw [s1 33 (by decide) (by decide) (by decide), m1 14 (by decide) (by decide)]; exact r10
  · rw [s1 34 (by decide) (by decide) (by decide), s1 35 (by decide) (by decide) (by decide), m2 62 (by decide) (by decide), m2 17 (by decide) (by decide), m2 20 (by decide) (by decide), m1 3 (by decide) (by decide), m1 4 (by decide) (by decide)]; exact w
  · rw [s1 33 (by decide) (by decide) (by decide)]; exact o
  · rw [s1 18 (by decide) (by decide) (by decide), m2 62 (by decide) (by decide), m2 63 (by decide) (by decide), m2 64 (by decide) (by decide), m2 65 (by decide) (by decide)]; exact sn
  · rw [m2 55 (by decide) (by decide), m2 62 (by decide) (by decide), s2 19 (by decide), s1 34 (by decide) (by decide) (by decide)]; exact dr
-- behind a fault, the rest of a button's line
theorem but_282 (hb : Bad M) {K : xSt → Prop} (H : K M) : B_M_readButton_282 hm e M K := b_M_readButton_282 (br_nf hb.2 H)
theorem but_191 {x : Nat} (hx : x < 10) (hb : Bad M) : ∃ M', FZ M M' ∧ ∀ K, K M' → B_M_readButton_191 hm e (nI x) M K := by
  have f1 : FZ M (x_putI M 23 x 60) := FZ.put (by decide) (by decide)
  have f2 : FZ (x_putI M 23 x 60) (x_putI (x_putI M 23 x 60) 24 x 10) := FZ.put (by decide) (by decide)
  have f3 : FZ (x_putI (x_putI M 23 x 60) 24 x 10) (x_putI (x_putI (x_putI M 23 x 60) 24 x 10) 25 x (-1)) := FZ.put (by decide) (by decide)
  have v : vp_in (nI x) 10 := vIn (by omega) (by omega)
  refine ⟨_, (f1.tr f2).tr f3, fun K H => b_M_readButton_191 ?_⟩
  rw [nCl (by omega)]
  exact opt_f hb ⟨v, opt_f (hb.z f1) ⟨v, v, br_nf (hb.z f1).2 (but_282 (hb.z ((f1.tr f2).tr f3)) H)⟩⟩
theorem but_164 {x : Nat} (hx : x < 10) (hb : Bad M) : ∃ M', FZ M M' ∧ ∀ K, K M' → B_M_readButton_164 hm e (nI x) M K := by
  have f1 : FZ M (x_putI M 22 x 0) := FZ.put (by decide) (by decide)
  obtain ⟨M', g1, g2⟩ := but_191 (hm := hm) (e := e) hx (hb.z f1)
  refine ⟨M', f1.tr g1, fun K H => b_M_readButton_164 ?_⟩
  rw [nCl (by omega)]
  exact old_f hb ⟨vIn (by omega) (by omega), br_nf hb.2 (g2 K H)⟩
theorem but_140 {x : Nat} (hx : x < 10) (hb : Bad M) : ∃ M', FZ M M' ∧ ∀ K, K M' → B_M_readButton_140 hm e (nI x) M K := by
  have f1 : FZ M (x_putI M 32 x (vp_nar .boolean (bi (M.1 0 6 = 1 ∧ M.2.1 0 9 = 1685022067)))) := FZ.put (by decide) (by decide)
  obtain ⟨M', g1, g2⟩ := but_164 (hm := hm) (e := e) hx (hb.z f1)
  refine ⟨M', f1.tr g1, fun K H => b_M_readButton_140 (m_M_isWord ?_)⟩
  rw [nCl (by omega)]
  exact ⟨vIn (by omega) (by omega), br_nf hb.2 (g2 K H)⟩
theorem but_108 {x : Nat} (hx : x < 10) (hb : Bad M) : ∃ M', FZ M M' ∧ ∀ K, K M' → B_M_readButton_108 hm e (nI x) M K := by
  obtain ⟨M', g1, g2⟩ := but_140 (hm := hm) (e := e) hx hb
  exact ⟨M', g1, fun K H => b_M_readButton_108 (br_nf hb.2 (g2 K H))⟩
theorem but_97 {x : Nat} (hx : x < 10) (hb : Bad M) : ∃ M', FZ M M' ∧ ∀ K, K M' → B_M_readButton_97 hm e (nI x) M K := by
  obtain ⟨M', g1, g2⟩ := but_108 (hm := hm) (e := e) hx hb
  exact ⟨M', g1, fun K H => b_M_readButton_97 (br_nf hb.2 (g2 K H))⟩
theorem but_48 {x : Nat} (hx : x < 10) (hb : Bad M) : ∃ M', FZ M M' ∧ ∀ K, K M' → B_M_readButton_48 hm e (nI x) M K := by
  have f1 : FZ M (x_putI M 21 x 0) := FZ.put (by decide) (by decide)
  obtain ⟨M', g1, g2⟩ := but_97 (hm := hm) (e := e) hx (hb.z f1)
  refine ⟨M', f1.tr g1, fun K H => b_M_readButton_48 ?_⟩
  rw [nCl (by omega)]
  exact want_f hb (old_f hb ⟨vIn (by omega) (by omega), br_nf hb.2 (g2 K H)⟩)
end
end
