section
abbrev rC : List Nat := [0, 1, 2, 3, 4, 5, 6, 7, 8, 9, 10, 11, 12, 13, 14, 15, 16, 45, 57, 58, 59, 60, 61, 62, 63]
abbrev rM : List Nat := [1, 5, 6, 15, 16, 17, 18, 19, 26, 27, 28, 29, 30, 31, 33, 42, 45, 46, 47, 48, 49, 50, 51]
abbrev rJ : List Nat := [1, 2, 3, 18, 21, 56, 57, 58, 59, 60, 61, 66, 85, 93, 94]
variable {hc hm : xH} {d e : Nat} {S M : xSt}
theorem RelP.fr3 {nm nd nb nf hd st : Nat} {S2 M2 : xSt} (hR : RelP nm nd nb nf hd st S M) (hC : ∀ c, c ∈ rC → S2.1 c = S.1 c) (hf : S2.1 43 3 = S.1 43 3) (hMc : ∀ c, c ∈ rM → M2.1 c = M.1 c) (hM0 : ∀ j, j ∈ rJ → M2.1 0 j = M.1 0 j)
    (hrow : Row nb (S2.1 42) (M2.1 34)) (hH : RH nb (S2.1 43 4) (S2.1 43 5) (S2.1 42) (S2.1 44) (M2.1 0 69) (M2.1 0 70) (M2.1 35)) : RelP nm nd nb nf hd st S2 M2 := by
  obtain ⟨hT, hM, hW, hN, hH0, hB, hG, hL, hF, hA⟩ := hR
  refine ⟨?_, ?_, ?_, hrow, hH, ?_, ?_, ?_, ?_, ?_⟩
  · rw [hC 2 (by decide), hC 3 (by decide), hC 4 (by decide), hC 5 (by decide), hC 6 (by decide), hC 7 (by decide), hC 8 (by decide), hC 9 (by decide), hC 10 (by decide), hC 11 (by decide), hC 12 (by decide), hC 13 (by decide), hC 14 (by decide)]
    exact hT
  · rw [hC 2 (by decide), hC 3 (by decide), hC 4 (by decide), hC 5 (by decide), hC 6 (by decide), hC 7 (by decide), hC 8 (by decide), hC 9 (by decide), hC 10 (by decide), hC 11 (by decide), hC 12 (by decide), hC 13 (by decide), hC 14 (by decide)]
    simp only [hMc 15 (by decide), hMc 16 (by decide), hMc 17 (by decide), hMc 18 (by decide), hMc 19 (by decide), hMc 26 (by decide), hMc 27 (by decide), hMc 28 (by decide), hMc 29 (by decide), hMc 30 (by decide), hMc 31 (by decide), hMc 33 (by decide), hM0 56 (by decide), hM0 57 (by decide), hM0 58 (by decide), hM0 59 (by decide), hM0 60 (by decide), hM0 61 (by decide)]
    exact hM
  · rw [hC 15 (by decide), hC 16 (by decide), hMc 5 (by decide), hMc 6 (by decide), hM0 66 (by decide), hM0 18 (by decide), hM0 21 (by decide)]
    exact hW
  · rw [hf, hC 45 (by decide), hMc 50 (by decide), hMc 51 (by decide)]
    exact hB
  · rw [hC 57 (by decide), hC 58 (by decide), hC 59 (by decide), hC 60 (by decide), hC 61 (by decide), hC 62 (by decide), hM0 93 (by decide), hM0 94 (by decide), hMc 45 (by decide), hMc 46 (by decide), hMc 47 (by decide), hMc 48 (by decide), hMc 49 (by decide)]
    exact hG
  · rw [hC 0 (by decide), hC 63 (by decide), hM0 85 (by decide), hMc 42 (by decide)]
    exact hL
  · rw [hC 0 (by decide), hM0 2 (by decide), hM0 3 (by decide)]
    exact hF
  · rw [hC 0 (by decide), hC 1 (by decide), hM0 1 (by decide), hMc 1 (by decide)]
    exact hA

/-- nothing that matters has changed -/
theorem RelP.same {nm nd nb nf hd st : Nat} {S2 M2 : xSt} (hR : RelP nm nd nb nf hd st S M) (hC : ∀ c, c ∈ rC → S2.1 c = S.1 c) (h42 : S2.1 42 = S.1 42) (h43 : S2.1 43 = S.1 43) (h44 : S2.1 44 = S.1 44) (hMc : ∀ c, c ∈ rM → M2.1 c = M.1 c) (hM0 : ∀ j, j ∈ rJ → M2.1 0 j = M.1 0 j) (h34 : M2.1 34 = M.1 34) (h35 : M2.1 35 = M.1 35) (h69 : M2.1 0 69 = M.1 0 69) (h70 : M2.1 0 70 = M.1 0 70) : RelP nm nd nb nf hd st S2 M2 := by
  refine hR.fr3 hC (by rw [h43]) hMc hM0 ?_ ?_
  · rw [h42, h34]; exact hR.2.2.2.1
  · rw [h43, h42, h44, h69, h70, h35]; exact hR.2.2.2.2.1
theorem act3 {nm nd nb nf hd st : Nat} (hc hm : xH) (hR : RelP nm nd nb nf hd st S M) : ∃ M1 : xSt, (∀ (e : Nat) (K : xSt → Prop), K M1 → M_M_act hm e M K) ∧ (∀ c, c ≠ 0 → c ≠ 35 → M1.1 c = M.1 c) ∧ (∀ j, j ≠ 69 → j ≠ 70 → M1.1 0 j = M.1 0 j) ∧
    ∀ S1 : xSt, (∀ c, c ∈ rC → S1.1 c = S.1 c) → S1.1 43 = S.1 43 → S1.1 44 = S.1 44 → ∃ S2 : xSt, (∀ (d : Nat) (K : xSt → Prop), K S2 → M_Hi_addAct hc d S1 K) ∧ (∀ c, c ≠ 43 → c ≠ 44 → S2.1 c = S1.1 c) ∧
      ∀ M2 : xSt, (∀ c, c ∈ rM → M2.1 c = M1.1 c) → (∀ j, j ∈ rJ → M2.1 0 j = M1.1 0 j) → M2.1 35 = M1.1 35 → M2.1 0 69 = M1.1 0 69 → M2.1 0 70 = M1.1 0 70 → Row nb (S1.1 42) (M2.1 34) → RelP nm nd nb nf hd st S2 M2 := by
  have hR0 := hR
  obtain ⟨hT, hM, hW, hN, ⟨dn, kn, h1, h2, e1, e2, e3, e4, r1, r2, r3⟩, hB, hG, hL, hF, hA⟩ := hR
  have hb : nb ≤ 10 := hT.2.2.1.2
  obtain ⟨M1, sm, a1, a2, a3, a4, a5, a6, a7, a8⟩ := m_M_act (hm := hm) (M := M) e3 (by omega)
  refine ⟨M1, a1, a2, a3, fun S1 c1 c2 c3 => ?_⟩
  obtain ⟨S2, sc, b1, b2, b3, b4, b5, b6, b7, b8, b9, b10⟩ := m_addAct (hc := hc) (S := S1) (dn := dn) (by rw [c2]; exact e1) (by omega)
  have hs : sm = sc := by rw [a6, b8]
  subst hs
  refine ⟨S2, b1, b2, fun M2 g1 g2 g3 g4 g5 hrow => ?_⟩
  have q42 : S2.1 42 = S1.1 42 := b2 _ (by decide) (by decide)
  have ne : ∀ c, c ∈ rC → c ≠ 43 ∧ c ≠ 44 := by decide
  have ne2 : ∀ c, c ∈ rM → c ≠ 0 ∧ c ≠ 35 := by decide
  have ne3 : ∀ j, j ∈ rJ → j ≠ 69 ∧ j ≠ 70 := by decide
  refine hR0.fr3 (fun c hc => (b2 c (ne c hc).1 (ne c hc).2).trans (c1 c hc)) (b3.trans (by rw [c2])) (fun c hc => (g1 c hc).trans (a2 c (ne2 c hc).1 (ne2 c hc).2)) (fun j hj => (g2 j hj).trans (a3 j (ne3 j hj).1 (ne3 j hj).2)) (by rw [q42]; exact hrow) ⟨dn + 1 - sm, dn + 1 - sm, Nat.le_refl _, b4, b6, b7, g4.trans a4, ?_, fun r hr => ?_, fun r hr1 hr2 => absurd hr2 (by omega), fun k hk => ?_⟩
  · rw [g5, a5, Nat.sub_self]; rfl
  · rw [g3]
    by_cases hr1 : r + 1 < dn + 1 - sm
    · refine (r1 (r + sm) (by omega)).congr hb (fun k hk => ?_) (fun k hk => ?_)
      · rw [b9 r hr k hk, c3]
      · exact a7 r hr1 k hk
    · have hr3 : r = dn - sm := by omega
      have hr4 : r + sm = dn := by omega
      refine hN.congr hb (fun k hk => ?_) (fun k hk => ?_)
      · rw [b9 r hr k hk, hr4, c3]; exact r3 k hk
      · rw [hr3]; exact a8 k hk
  · rw [b10 k hk, q42]
theorem RelP.wp {nm nd nb nf hd st : Nat} (h : RelP nm nd nb nf hd st S M) : ∃ n, WP nm nb n (M.1 5) (M.1 6) S ∧ MD nm nb n S M := by
  obtain ⟨hT, hM, ⟨n, w1, w2, w3, w4, w5, w6⟩, -⟩ := h
  obtain ⟨⟨mm, md, mb, mf, mh, ms⟩, hmen, -, hbt, -⟩ := hM
  have hbs := hT.2.2.2.2.2.2.2.2.1
  exact ⟨n, ⟨hT.1, hT.2.2.1, fun b hb => (hbs b hb).2.1, w2, w1, w6⟩, ⟨mb.trans hT.2.2.1.1, hT.2.2.1.2⟩, hT.1.2, fun b hb => ⟨(hbt b hb).2.1, (hbs b hb).2.1, (hbt b hb).2.2.2.2.1, (hbt b hb).2.2.2.1, (hbs b hb).2.2.2.1⟩, fun m hm => (hmen m hm).2.1, ms, w3, w1, w4, _, w6⟩
theorem m_load {K : xSt → Prop} (H : ∀ M', FrD M M' → M'.1 0 73 = M.1 34 20 → M'.1 0 74 = M.1 34 21 → (∀ b, b < 10 → M'.1 36 b = M.1 34 b ∧ M'.1 37 b = M.1 34 (10 + b)) → K M') : M_M_load hm e M K := by
  refine e_M_load ?_
  refine lp_inv (B := fun i (M' : xSt) => B_M_load_2 hm e (nI i) M' K) (fun i M' => FrD M M' ∧ (∀ b, b < i → M'.1 36 b = M.1 34 b ∧ M'.1 37 b = M.1 34 (10 + b))) 10 (fun i M' hi hI ih => ?_) (fun M' hI => ?_) M ⟨FrD.rf M, fun b hb => absurd hb (Nat.not_lt_zero b)⟩
  · obtain ⟨q1, q2⟩ := hI
    have ci : (nI i).toNatClampNeg = i := nCl (by omega)
    have e10 : (10 : Int32) + nI i = nI (10 + i) := by rw [show (10 : Int32) = nI 10 from rfl, nI_add]
    have n34 : M'.1 34 = M.1 34 := q1.1 _ (by decide) (by decide) (by decide) (by decide) (by decide)
    refine b_M_load_2 (br_f (nI_ge (b := 10) hi (by omega)) ⟨vIn (by omega) (by omega), vIn (by omega) (by omega), by rw [e10]; exact vIn (by omega) (by omega), vIn (by omega) (by omega), ?_⟩)
    rw [ci, e10, nCl (by omega), nI_1, n34]
    refine ih _ ⟨q1.tr ⟨fun c c0 c1 c2 c3 c4 => by rw [gI_ne _ _ _ c4, gI_ne _ _ _ c3], fun j _ _ => rfl⟩, fun b hb => ?_⟩
    show upd (M'.1 36) i _ b = _ ∧ upd (M'.1 37) i _ b = _
    by_cases z : b = i
    · subst z; rw [up_s, up_s]; exact ⟨rfl, rfl⟩
    · rw [up_n _ _ z, up_n _ _ z]; exact q2 b (by omega)
  · obtain ⟨q1, q2⟩ := hI
    have n34 : M'.1 34 = M.1 34 := q1.1 _ (by decide) (by decide) (by decide) (by decide) (by decide)
    refine b_M_load_2 (br_t (by decide) (H _ (q1.tr ⟨fun c c0 c1 c2 c3 c4 => by rw [gI_ne _ _ _ c0, gI_ne _ _ _ c0], fun j j1 j2 => by show upd (upd (M'.1 0) 73 _) 74 _ j = _; rw [up_n _ _ j2, up_n _ _ j1]⟩) ?_ ?_ q2))
    · show M'.1 34 20 = _
      rw [n34]
    · show M'.1 34 21 = _
      rw [n34]
theorem m_M_day_back {x1 : Int32} {K : Int32 → xSt → Prop} (H : ∀ M', (∀ c, c ≠ 34 → M'.1 c = M.1 c) → (∀ b, b < 10 → M'.1 34 b = M.1 36 b ∧ M'.1 34 (10 + b) = M.1 37 b) → M'.1 34 20 = M.1 0 73 → M'.1 34 21 = M.1 0 74 → M'.1 34 22 = M.1 34 22 → K x1 M') : B_M_day_29 hm e x1 0 M K := by
  refine lp_inv (B := fun i (M' : xSt) => B_M_day_29 hm e x1 (nI i) M' K) (fun i M' => (∀ c, c ≠ 34 → M'.1 c = M.1 c) ∧ (∀ b, b < i → M'.1 34 b = M.1 36 b ∧ M'.1 34 (10 + b) = M.1 37 b) ∧ M'.1 34 22 = M.1 34 22) 10 (fun i M' hi hI ih => ?_) (fun M' hI => ?_) M ⟨fun c _ => rfl, fun b hb => absurd hb (Nat.not_lt_zero b), rfl⟩
  · obtain ⟨q1, q2, q3⟩ := hI
    have ci : (nI i).toNatClampNeg = i := nCl (by omega)
    have e10 : (10 : Int32) + nI i = nI (10 + i) := by rw [show (10 : Int32) = nI 10 from rfl, nI_add]
    refine b_M_day_29 (br_f (nI_ge (b := 10) hi (by omega)) ⟨vIn (by omega) (by omega), vIn (by omega) (by omega), vIn (by omega) (by omega), by rw [e10]; exact vIn (by omega) (by omega), ?_⟩)
    rw [ci, e10, nCl (by omega), nI_1]
    refine ih _ ⟨fun c hc => by rw [gI_ne _ _ _ hc, gI_ne _ _ _ hc]; exact q1 c hc, fun b hb => ?_, ?_⟩
    · show upd (upd (M'.1 34) i _) (10 + i) _ b = _ ∧ upd (upd (M'.1 34) i _) (10 + i) _ (10 + b) = _
      by_cases z : b = i
      · subst z
        rw [up_n _ _ (by omega), up_s, up_s]
        exact ⟨by rw [q1 _ (by decide)], by rw [q1 _ (by decide)]⟩
      · rw [up_n _ _ (by omega), up_n _ _ z, up_n _ _ (by omega), up_n _ _ (by omega)]; exact q2 b (by omega)
    · show upd (upd (M'.1 34) i _) (10 + i) _ 22 = _
      rw [up_n _ _ (by omega), up_n _ _ (by omega)]; exact q3
  · obtain ⟨q1, q2, q3⟩ := hI
    have e34 : (x_putI (x_putI M' 34 20 (M'.1 0 73)) 34 21 (M'.1 0 74)).1 34 = upd (upd (M'.1 34) 20 (M'.1 0 73)) 21 (M'.1 0 74) := rfl
    refine b_M_day_29 (br_t (by decide) (H _ (fun c hc => by rw [gI_ne _ _ _ hc, gI_ne _ _ _ hc]; exact q1 c hc) (fun b hb => ?_) ?_ ?_ ?_))
    · rw [e34, up_n _ _ (by omega), up_n _ _ (by omega), up_n _ _ (by omega), up_n _ _ (by omega)]; exact q2 b hb
    · rw [e34, up_n _ _ (by omega), up_s, q1 0 (by decide)]
    · rw [e34, up_s, q1 0 (by decide)]
    · rw [e34, up_n _ _ (by omega), up_n _ _ (by omega)]; exact q3
theorem sim_day (hR : Rel S M) : OK2 Rel (M_O_day hc d S) (M_M_day hm e M) := by
  have hR0 := hR
  obtain ⟨nm, nd, nb, nf, hd, st, hP⟩ := hR
  have hN : Row nb (S.1 42) (M.1 34) := hP.2.2.2.1
  have hb : nb ≤ 10 := hP.1.2.2.1.2
  obtain ⟨n, hW, hD⟩ := hP.wp
  obtain ⟨D, hD1, eD⟩ := hN.2.2.2.2.1
  have eDm : M.1 34 20 = nI D := hN.2.1.trans eD
  by_cases c : D = 99
  · subst c
    exact e_O_day (m_Co_today (br_f (by rw [eD]; decide) (e_M_day (br_nt eDm ⟨rfl, hR0⟩))))
  · obtain ⟨M1, a1, a2, a3, a4⟩ := act3 hc hm hP
    refine e_O_day (m_Co_today (br_t (by rw [eD]; exact nI_lt (b := 99) (by omega) (by omega)) (m_passDay hW (fun S1 p1 p2 p3 p4 p5 => ?_))))
    obtain ⟨S2, s1, s2, s3⟩ := a4 S1 (fun c hc => p1 c (by revert c; decide) (by revert c; decide)) (p1 _ (by decide) (by decide)) (p1 _ (by decide) (by decide))
    refine s1 _ _ (e_M_day (br_nf (by rw [eDm]; exact fun z => c ((nEq (b := 99) (by omega) (by omega)).mp z)) (a1 _ _ (m_load (fun M2 f1 f2 f3 f4 => ?_)))))
    have n34 : M1.1 34 = M.1 34 := a2 _ (by decide) (by decide)
    have hD1' : MD nm nb n S M1 := by
      unfold MD
      rw [a3 58 (by decide) (by decide), a3 61 (by decide) (by decide), a3 18 (by decide) (by decide), a3 66 (by decide) (by decide), a2 27 (by decide) (by decide), a2 29 (by decide) (by decide), a2 33 (by decide) (by decide), a2 16 (by decide) (by decide), a2 5 (by decide) (by decide), a2 6 (by decide) (by decide)]
      exact hD
    have es : M2.1 5 = M.1 5 := (f1.1 _ (by decide) (by decide) (by decide) (by decide) (by decide)).trans (a2 _ (by decide) (by decide))
    have ea : M2.1 6 = M.1 6 := (f1.1 _ (by decide) (by decide) (by decide) (by decide) (by decide)).trans (a2 _ (by decide) (by decide))
    have ed : M2.1 0 73 = S.1 42 20 := by rw [f2, n34]; exact hN.2.1
    have esd : M2.1 0 74 = S.1 42 21 := by rw [f3, n34]; exact hN.2.2.1
    have est : ∀ b, b < nb → M2.1 36 b = S.1 42 b := fun b q => by rw [(f4 b (by omega)).1, n34]; exact (hN.1 b q).1
    have eth : ∀ b, b < nb → M2.1 37 b = S.1 42 (10 + b) := fun b q => by rw [(f4 b (by omega)).2, n34]; exact (hN.1 b q).2.1
    refine m_goDay (hD1'.fr f1) (fun b q => ?_) (fun M3 g1 g2 g3 g4 g5 => ?_)
    · rw [eth b q]; exact (hN.1 b q).2.2
    · rw [es, ea, ed, esd] at g4 ⊢
      refine m_M_day_back (fun M4 k1 k2 k3 k4 k5 => ⟨?_, nm, nd, nb, nf, hd, st, s3 M4 (fun c hc => ?_) (fun j hj => ?_) ?_ ?_ ?_ ?_⟩)
      · congr 1
        refine cN_congr fun b q => ?_
        rw [est b q, eth b q]
      · have z : c ≠ 34 ∧ c ≠ 0 ∧ c ≠ 8 ∧ c ≠ 9 ∧ c ≠ 36 ∧ c ≠ 37 := by revert c; decide
        rw [k1 c z.1, g1.1 c z.2.1 z.2.2.1 z.2.2.2.1 z.2.2.2.2.1 z.2.2.2.2.2, f1.1 c z.2.1 z.2.2.1 z.2.2.2.1 z.2.2.2.2.1 z.2.2.2.2.2]
      · have z : j ≠ 73 ∧ j ≠ 74 := by revert j; decide
        rw [k1 0 (by decide), g1.2 j z.1 z.2, f1.2 j z.1 z.2]
      · rw [k1 _ (by decide), g1.1 _ (by decide) (by decide) (by decide) (by decide) (by decide), f1.1 _ (by decide) (by decide) (by decide) (by decide) (by decide)]
      · rw [k1 0 (by decide), g1.2 _ (by decide) (by decide), f1.2 _ (by decide) (by decide)]
      · rw [k1 0 (by decide), g1.2 _ (by decide) (by decide), f1.2 _ (by decide) (by decide)]
      · refine ⟨fun b q => ?_, ?_, ?_, ?_, ?_, ?_⟩
        · obtain ⟨u1, u2⟩ := k2 b (by omega)
          obtain ⟨v1, v2⟩ := g4 b q
          obtain ⟨w1, w2⟩ := p2 b q
          rw [u1, u2, v1, v2, w1, w2, est b q, eth b q]
          refine ⟨rfl, rfl, ?_⟩
          obtain ⟨k, hk, ek⟩ := (hN.1 b q).2.2
          rw [ek]
          obtain ⟨k', h1, h2⟩ := nT_N (S := S) (n := n) (step := M.1 5) (arg := M.1 6) (s := S.1 42 b) (sto := stoN S (sdN (S.1 42 21))) (D := S.1 42 20) (b := b) hk
          exact ⟨k', by omega, h2⟩
        · rw [k3, g2, ed, p3]
        · rw [k4, g3, esd, p4]
        · rw [k5, g1.1 _ (by decide) (by decide) (by decide) (by decide) (by decide), f1.1 _ (by decide) (by decide) (by decide) (by decide) (by decide), n34, p5]; exact hN.2.2.2.1
        · rw [p3, eD, nI_1]; exact ⟨D + 1, by omega, rfl⟩
        · rw [p5]; exact hN.2.2.2.2.2
end
