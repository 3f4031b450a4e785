section
variable {hc hm : xH} {d e : Nat} {S M : xSt}
section
variable {t : Nat → Nat} {n k v q p nm nd nb nf hd st : Nat} {l : List Nat}
theorem DR_num {S' M' : xSt} {hd' st' : Nat} (h : DR nm nd nb nf hd st S M) (s1 : ∀ c, c ≠ 18 → c ≠ 19 → c ≠ 21 → S'.1 c = S.1 c) (s2 : ∀ j, j < 17 → S'.1 21 j = S.1 21 j) (s3 : S'.1 21 17 = nI hd' ∧ 1 ≤ hd' ∧ hd' ≤ 24) (s4 : S'.1 21 18 = nI st' ∧ st' ≤ 100) (s5 : ∀ c, c ≠ 19 → S'.2.1 c = S.2.1 c)
    (m1 : ∀ c, c ≠ 0 → M'.1 c = M.1 c) (m2 : ∀ j, (j < 2 ∨ 8 < j) → (j < 53 ∨ 55 < j) → (j < 63 ∨ 65 < j) → M'.1 0 j = M.1 0 j) (m3 : M'.1 0 53 = S'.1 21 17) (m4 : M'.1 0 54 = S'.1 21 18) (m5 : M'.1 0 55 = S'.1 21 19) (m6 : ∀ c, c ≠ 0 → M'.2.1 c = M.2.1 c) (sn : SN (S'.1 18 6) (M'.1 0 62) (M'.1 0 63) (M'.1 0 64) (M'.1 0 65)) : DR nm nd nb nf hd' st' S' M' := by
  obtain ⟨⟨t1, t2, t3, t4, t5, t6, t7, t8, t9, t10, t11⟩, ⟨⟨r1, r2, r3, r4, r5, r6⟩, r7, r8, r9, r10⟩, w, o, ⟨n1, n2, n3⟩, -, dr⟩ := h
  have f : ∀ c, 22 ≤ c → S'.1 c = S.1 c := fun c hc => s1 c (by omega) (by omega) (by omega)
  refine ⟨⟨?_, ?_, ?_, ?_, s3, s4, ?_, ?_, ?_, ?_, ?_⟩, ⟨⟨?_, ?_, ?_, ?_, m3, m4⟩, ?_, ?_, ?_, ?_⟩, ?_, ?_, ⟨?_, ?_, ?_⟩, sn, m5, ?_⟩
  · rw [s2 0 (by decide)]; exact t1
  · rw [s2 4 (by decide)]; exact t2
  · rw [s2 6 (by decide)]; exact t3
  · rw [s2 14 (by decide)]; exact t4
  · rw [f 22 (by decide), f 23 (by decide), f 24 (by decide)]; exact t7
  · rw [f 25 (by decide)]; exact t8
  · rw [f 26 (by decide), f 27 (by decide), f 28 (by decide), f 29 (by decide), f 30 (by decide), f 31 (by decide), f 32 (by decide)]; exact t9
  · rw [f 33 (by decide)]; exact t10
  · rw [f 33 (by decide)]; exact t11
  · rw [m2 49 (by decide) (by decide) (by decide), s2 0 (by decide)]; exact r1
  · rw [m2 50 (by decide) (by decide) (by decide), s2 4 (by decide)]; exact r2
  · rw [m2 51 (by decide) (by decide) (by decide), s2 6 (by decide)]; exact r3
  · rw [m2 52 (by decide) (by decide) (by decide), s2 14 (by decide)]; exact r4
  · rw [f 22 (by decide), f 23 (by decide), f 24 (by decide), m1 10 (by decide), m1 11 (by decide), m1 12 (by decide)]; exact r7
  · rw [f 25 (by decide), m1 13 (by decide)]; exact r8
  · rw [f 26 (by decide), f 27 (by decide), f 28 (by decide), f 29 (by decide), f 30 (by decide), f 31 (by decide), f 32 (by decide), m1 20 (by decide), m1 21 (by decide), m1 22 (by decide), m1 23 (by decide), m1 24 (by decide), m1 25 (by decide), m1 32 (by decide)]; exact r9
  · rw [f 33 (by decide), m1 14 (by decide)]; exact r10
  · rw [f 34 (by decide), f 35 (by decide), m2 62 (by decide) (by decide) (by decide), m2 17 (by decide) (by decide) (by decide), m2 20 (by decide) (by decide) (by decide), m1 3 (by decide), m1 4 (by decide)]; exact w
  · rw [f 33 (by decide)]; exact o
  · exact n1.fr (fun i _ => by rw [s5 38 (by decide)]) (fun i _ => by rw [m6 2 (by decide)])
  · exact n2.fr (fun i _ => by rw [s5 39 (by decide)]) (fun i _ => by rw [m6 2 (by decide)])
  · exact n3.fr (fun i _ => by rw [s5 40 (by decide)]) (fun i _ => by rw [m6 2 (by decide)])
  · rw [m2 62 (by decide) (by decide) (by decide), f 34 (by decide)]; exact dr.2
theorem sN_t : ∀ a b c d : Bool, ((sN a b c d &&& oneAt (nI 15)) = 0 ↔ a = false) ∧ ((sN a b c d &&& oneAt (nI 16)) = 0 ↔ b = false) ∧ ((sN a b c d &&& oneAt (nI 17)) = 0 ↔ c = false) ∧ ((sN a b c d &&& oneAt (nI 18)) = 0 ↔ d = false) := by decide +kernel
theorem sN_o : ∀ a b c d : Bool, sN a b c d ||| oneAt (nI 15) = sN true b c d ∧ sN a b c d ||| oneAt (nI 16) = sN a true c d ∧ sN a b c d ||| oneAt (nI 17) = sN a b true d ∧ sN a b c d ||| oneAt (nI 18) = sN a b c true := by decide +kernel
theorem lineDay (h : QJ t n 3 16 l q p S M) (hD : DR nm nd nb nf hd st S M) (h0 : M.1 0 63 = 0) : LJ t n p (M_Rd_readHoursOfDay hc d S) (fun K => M_M_told hm e 6578553 1 24 (x_putI M 0 63 1) (fun r2 S2 => K (x_putI S2 0 53 r2))) S M := by
  obtain ⟨a1, b1, c1, d1, x1, x2, x3, x4, x5⟩ := hD.2.2.2.2.2.1
  have tv : S.1 19 5 = nI 16 := ((tk_word h.1.2.2.2.2.2.1 (w := 16) (by omega)).1.mpr ⟨rfl, rfl⟩).2
  have z0 : b1 = false := (mB0 _).mp (x3.symm.trans h0)
  have tb := (sN_t a1 b1 c1 d1).2.1
  have to := (sN_o a1 b1 c1 d1).2.1
  have hq : QJ t n 3 16 l q p (x_putI S 18 6 (S.1 18 6 ||| oneAt (nI 16))) (x_putI M 0 63 1) := h.fr rfl rfl rfl rfl rfl (fun j h1 h2 => by rw [gI_same, up_n _ _ (by omega)]) rfl
  obtain ⟨S1, M1, k1, v1, l1, q1, p1, r1, r2, r3, r4, r5, r6, r7⟩ := advJ (hc := hc) (d := d) (hm := hm) (e := e) hq (by omega)
  have preC : ∀ K, K 1 S1 → M_Rd_opensOnce hc d S K := by
    intro K H
    refine e_Rd_opensOnce ?_
    rw [tv]
    refine br_t ?_ (r1 _ H)
    rw [x1]; exact tb.mpr z0
  have preM : ∀ K, M_M_toldNumber hm e 1 24 M1 K → M_M_told hm e 6578553 1 24 (x_putI M 0 63 1) K := by
    intro K H
    refine e_M_told (e_M_want (br_t hq.2.f0.1 (wordM hq (w := 16) (by omega) kc16 ?_)))
    rw [if_pos ⟨rfl, rfl⟩]
    exact br_nf (by decide) (r2 _ H)
  have fz : FZ M (x_putI M 0 63 1) := FZ.put0 (by decide) (by decide) (by decide)
  rcases numJ (hc := hc) (d := d) (hm := hm) (e := e) r5 (a := 1) (b := 24) (by omega) (by omega) with ⟨r, h1, h2, S2, M2, g1, g2, g3, g4, k2, v2, l2, q2, p2, g5, g6, g7⟩ | ⟨S2, M2, r, g1, g2, g3⟩
  · refine Or.inl ⟨x_putI S2 21 17 (nI r), x_putI M2 0 53 (nI r), fun K H => e_Rd_readHoursOfDay (preC _ (br_nf (by decide) (g1 _ (br_f (nM1 (by omega)) H)))), fun K H => preM _ (g2 _ H), ?_, ?_, ?_, ?_⟩
    · exact (FPc.put (by omega)).tr (r3.pc.tr (g3.pc.tr (FPc.put (by omega))))
    · exact fz.1.tr (r4.pm.tr (g4.pm.tr (FZ.put0 (by decide) (by decide) (by decide)).1))
    · exact ⟨k2, v2, l2, q2, p2, g5.fr rfl rfl rfl rfl rfl (fun j h1 h2 => by rw [gI_same, up_n _ _ (by omega)]) rfl, by omega, g7⟩
    · refine ⟨nm, nd, nb, nf, r, st, DR_num hD (fun c h1 h2 h3 => by rw [gI_ne _ _ _ h3, g3.1 c h2, r3.1 c h2, gI_ne _ _ _ h1]) (fun j hj => by rw [gI_same, up_n _ _ (by omega), g3.1 21 (by decide), r3.1 21 (by decide)]; rfl) (⟨by rw [gI_same, up_s], by omega, by omega⟩) (by rw [gI_same, up_n _ _ (by decide), g3.1 21 (by decide), r3.1 21 (by decide)]; exact hD.1.2.2.2.2.2.1) (fun c hc => by show S2.2.1 c = _; rw [g3.2.1 c hc, r3.2.1 c hc]; rfl) (fun c hc => by rw [gI_ne _ _ _ hc, g4.1 c hc, r4.1 c hc, gI_ne _ _ _ hc]) (fun j h1 h2 h3 => by rw [gI_same, up_n _ _ (by omega), g4.2.2 j h1, r4.2.2 j h1, gI_same, up_n _ _ (by omega)]) (by rw [gI_same, up_s, gI_same, up_s]) (by rw [gI_same, up_n _ _ (by decide), gI_same, up_n _ _ (by decide), g4.2.2 54 (by decide), g3.1 21 (by decide), r4.2.2 54 (by decide), r3.1 21 (by decide)]; exact hD.2.1.1.2.2.2.2.2) (by rw [gI_same, up_n _ _ (by decide), gI_same, up_n _ _ (by decide), g4.2.2 55 (by decide), g3.1 21 (by decide), r4.2.2 55 (by decide), r3.1 21 (by decide)]; exact hD.2.2.2.2.2.2.1) (fun c hc => by show M2.2.1 c = _; rw [g4.2.1 c hc, r4.2.1 c hc]; rfl) ⟨a1, true, c1, d1, ?_, by rw [gI_same, up_n _ _ (by decide), g4.2.2 62 (by decide), r4.2.2 62 (by decide)]; exact x2, by rw [gI_same, up_n _ _ (by decide), g4.2.2 63 (by decide), r4.2.2 63 (by decide)]; rfl, by rw [gI_same, up_n _ _ (by decide), g4.2.2 64 (by decide), r4.2.2 64 (by decide)]; exact x4, by rw [gI_same, up_n _ _ (by decide), g4.2.2 65 (by decide), r4.2.2 65 (by decide)]; exact x5⟩⟩
      show S2.1 18 6 = _
      rw [g3.1 18 (by decide), r3.1 18 (by decide), gI_same, up_s, x1]
      exact to
  · refine Or.inr ⟨x_putI S2 21 17 (-1), x_putI M2 0 53 r, fun K H => e_Rd_readHoursOfDay (preC _ (br_nf (by decide) (g1 _ (br_t rfl H)))), fun K H => preM _ (g2 _ H), ?_, ?_, ?_⟩
    · exact (FPc.put (by omega)).tr (r3.pc.tr (g3.1.pc.tr (FPc.put (by omega))))
    · exact fz.1.tr (r4.pm.tr (g3.2.1.pm.tr (FZ.put0 (by decide) (by decide) (by decide)).1))
    · exact (g3.2.2.z (FZ.put0 (by decide) (by decide) (by decide))).s rfl
theorem lineStorm (h : QJ t n 3 17 l q p S M) (hD : DR nm nd nb nf hd st S M) (h0 : M.1 0 64 = 0) : LJ t n p (M_Rd_readStorm hc d S) (fun K => M_M_told hm e 495874699885 0 100 (x_putI M 0 64 1) (fun r2 S2 => K (x_putI S2 0 54 r2))) S M := by
  obtain ⟨a1, b1, c1, d1, x1, x2, x3, x4, x5⟩ := hD.2.2.2.2.2.1
  have tv : S.1 19 5 = nI 17 := ((tk_word h.1.2.2.2.2.2.1 (w := 17) (by omega)).1.mpr ⟨rfl, rfl⟩).2
  have z0 : c1 = false := (mB0 _).mp (x4.symm.trans h0)
  have tb := (sN_t a1 b1 c1 d1).2.2.1
  have to := (sN_o a1 b1 c1 d1).2.2.1
  have hq : QJ t n 3 17 l q p (x_putI S 18 6 (S.1 18 6 ||| oneAt (nI 17))) (x_putI M 0 64 1) := h.fr rfl rfl rfl rfl rfl (fun j h1 h2 => by rw [gI_same, up_n _ _ (by omega)]) rfl
  obtain ⟨S1, M1, k1, v1, l1, q1, p1, r1, r2, r3, r4, r5, r6, r7⟩ := advJ (hc := hc) (d := d) (hm := hm) (e := e) hq (by omega)
  have preC : ∀ K, K 1 S1 → M_Rd_opensOnce hc d S K := by
    intro K H
    refine e_Rd_opensOnce ?_
    rw [tv]
    refine br_t ?_ (r1 _ H)
    rw [x1]; exact tb.mpr z0
  have preM : ∀ K, M_M_toldNumber hm e 0 100 M1 K → M_M_told hm e 495874699885 0 100 (x_putI M 0 64 1) K := by
    intro K H
    refine e_M_told (e_M_want (br_t hq.2.f0.1 (wordM hq (w := 17) (by omega) kc17 ?_)))
    rw [if_pos ⟨rfl, rfl⟩]
    exact br_nf (by decide) (r2 _ H)
  have fz : FZ M (x_putI M 0 64 1) := FZ.put0 (by decide) (by decide) (by decide)
  rcases numJ (hc := hc) (d := d) (hm := hm) (e := e) r5 (a := 0) (b := 100) (by omega) (by omega) with ⟨r, h1, h2, S2, M2, g1, g2, g3, g4, k2, v2, l2, q2, p2, g5, g6, g7⟩ | ⟨S2, M2, r, g1, g2, g3⟩
  · refine Or.inl ⟨x_putI S2 21 18 (nI r), x_putI M2 0 54 (nI r), fun K H => e_Rd_readStorm (preC _ (br_nf (by decide) (g1 _ (br_f (nM1 (by omega)) H)))), fun K H => preM _ (g2 _ H), ?_, ?_, ?_, ?_⟩
    · exact (FPc.put (by omega)).tr (r3.pc.tr (g3.pc.tr (FPc.put (by omega))))
    · exact fz.1.tr (r4.pm.tr (g4.pm.tr (FZ.put0 (by decide) (by decide) (by decide)).1))
    · exact ⟨k2, v2, l2, q2, p2, g5.fr rfl rfl rfl rfl rfl (fun j h1 h2 => by rw [gI_same, up_n _ _ (by omega)]) rfl, by omega, g7⟩
    · refine ⟨nm, nd, nb, nf, hd, r, DR_num hD (fun c h1 h2 h3 => by rw [gI_ne _ _ _ h3, g3.1 c h2, r3.1 c h2, gI_ne _ _ _ h1]) (fun j hj => by rw [gI_same, up_n _ _ (by omega), g3.1 21 (by decide), r3.1 21 (by decide)]; rfl) (by rw [gI_same, up_n _ _ (by decide), g3.1 21 (by decide), r3.1 21 (by decide)]; exact hD.1.2.2.2.2.1) (⟨by rw [gI_same, up_s], by omega⟩) (fun c hc => by show S2.2.1 c = _; rw [g3.2.1 c hc, r3.2.1 c hc]; rfl) (fun c hc => by rw [gI_ne _ _ _ hc, g4.1 c hc, r4.1 c hc, gI_ne _ _ _ hc]) (fun j h1 h2 h3 => by rw [gI_same, up_n _ _ (by omega), g4.2.2 j h1, r4.2.2 j h1, gI_same, up_n _ _ (by omega)]) (by rw [gI_same, up_n _ _ (by decide), gI_same, up_n _ _ (by decide), g4.2.2 53 (by decide), g3.1 21 (by decide), r4.2.2 53 (by decide), r3.1 21 (by decide)]; exact hD.2.1.1.2.2.2.2.1) (by rw [gI_same, up_s, gI_same, up_s]) (by rw [gI_same, up_n _ _ (by decide), gI_same, up_n _ _ (by decide), g4.2.2 55 (by decide), g3.1 21 (by decide), r4.2.2 55 (by decide), r3.1 21 (by decide)]; exact hD.2.2.2.2.2.2.1) (fun c hc => by show M2.2.1 c = _; rw [g4.2.1 c hc, r4.2.1 c hc]; rfl) ⟨a1, b1, true, d1, ?_, by rw [gI_same, up_n _ _ (by decide), g4.2.2 62 (by decide), r4.2.2 62 (by decide)]; exact x2, by rw [gI_same, up_n _ _ (by decide), g4.2.2 63 (by decide), r4.2.2 63 (by decide)]; exact x3, by rw [gI_same, up_n _ _ (by decide), g4.2.2 64 (by decide), r4.2.2 64 (by decide)]; rfl, by rw [gI_same, up_n _ _ (by decide), g4.2.2 65 (by decide), r4.2.2 65 (by decide)]; exact x5⟩⟩
      show S2.1 18 6 = _
      rw [g3.1 18 (by decide), r3.1 18 (by decide), gI_same, up_s, x1]
      exact to
  · refine Or.inr ⟨x_putI S2 21 18 (-1), x_putI M2 0 54 r, fun K H => e_Rd_readStorm (preC _ (br_nf (by decide) (g1 _ (br_t rfl H)))), fun K H => preM _ (g2 _ H), ?_, ?_, ?_⟩
    · exact (FPc.put (by omega)).tr (r3.pc.tr (g3.1.pc.tr (FPc.put (by omega))))
    · exact fz.1.tr (r4.pm.tr (g3.2.1.pm.tr (FZ.put0 (by decide) (by decide) (by decide)).1))
    · exact (g3.2.2.z (FZ.put0 (by decide) (by decide) (by decide))).s rfl
theorem lineDraw (h : QJ t n 3 18 l q p S M) (hD : DR nm nd nb nf hd st S M) (h0 : M.1 0 65 = 0) : LJ t n p (M_Rd_readDraw hc d S) (fun K => M_M_told hm e 1685217655 0 999 (x_putI M 0 65 1) (fun r2 S2 => K (x_putI S2 0 55 r2))) S M := by
  obtain ⟨a1, b1, c1, d1, x1, x2, x3, x4, x5⟩ := hD.2.2.2.2.2.1
  have tv : S.1 19 5 = nI 18 := ((tk_word h.1.2.2.2.2.2.1 (w := 18) (by omega)).1.mpr ⟨rfl, rfl⟩).2
  have z0 : d1 = false := (mB0 _).mp (x5.symm.trans h0)
  have tb := (sN_t a1 b1 c1 d1).2.2.2
  have to := (sN_o a1 b1 c1 d1).2.2.2
  have hq : QJ t n 3 18 l q p (x_putI S 18 6 (S.1 18 6 ||| oneAt (nI 18))) (x_putI M 0 65 1) := h.fr rfl rfl rfl rfl rfl (fun j h1 h2 => by rw [gI_same, up_n _ _ (by omega)]) rfl
  obtain ⟨S1, M1, k1, v1, l1, q1, p1, r1, r2, r3, r4, r5, r6, r7⟩ := advJ (hc := hc) (d := d) (hm := hm) (e := e) hq (by omega)
  have preC : ∀ K, K 1 S1 → M_Rd_opensOnce hc d S K := by
    intro K H
    refine e_Rd_opensOnce ?_
    rw [tv]
    refine br_t ?_ (r1 _ H)
    rw [x1]; exact tb.mpr z0
  have preM : ∀ K, M_M_toldNumber hm e 0 999 M1 K → M_M_told hm e 1685217655 0 999 (x_putI M 0 65 1) K := by
    intro K H
    refine e_M_told (e_M_want (br_t hq.2.f0.1 (wordM hq (w := 18) (by omega) kc18 ?_)))
    rw [if_pos ⟨rfl, rfl⟩]
    exact br_nf (by decide) (r2 _ H)
  have fz : FZ M (x_putI M 0 65 1) := FZ.put0 (by decide) (by decide) (by decide)
  rcases numJ (hc := hc) (d := d) (hm := hm) (e := e) r5 (a := 0) (b := 999) (by omega) (by omega) with ⟨r, h1, h2, S2, M2, g1, g2, g3, g4, k2, v2, l2, q2, p2, g5, g6, g7⟩ | ⟨S2, M2, r, g1, g2, g3⟩
  · refine Or.inl ⟨x_putI S2 21 19 (nI r), x_putI M2 0 55 (nI r), fun K H => e_Rd_readDraw (preC _ (br_nf (by decide) (g1 _ (br_f (nM1 (by omega)) H)))), fun K H => preM _ (g2 _ H), ?_, ?_, ?_, ?_⟩
    · exact (FPc.put (by omega)).tr (r3.pc.tr (g3.pc.tr (FPc.put (by omega))))
    · exact fz.1.tr (r4.pm.tr (g4.pm.tr (FZ.put0 (by decide) (by decide) (by decide)).1))
    · exact ⟨k2, v2, l2, q2, p2, g5.fr rfl rfl rfl rfl rfl (fun j h1 h2 => by rw [gI_same, up_n _ _ (by omega)]) rfl, by omega, g7⟩
    · refine ⟨nm, nd, nb, nf, hd, st, DR_num hD (fun c h1 h2 h3 => by rw [gI_ne _ _ _ h3, g3.1 c h2, r3.1 c h2, gI_ne _ _ _ h1]) (fun j hj => by rw [gI_same, up_n _ _ (by omega), g3.1 21 (by decide), r3.1 21 (by decide)]; rfl) (by rw [gI_same, up_n _ _ (by decide), g3.1 21 (by decide), r3.1 21 (by decide)]; exact hD.1.2.2.2.2.1) (by rw [gI_same, up_n _ _ (by decide), g3.1 21 (by decide), r3.1 21 (by decide)]; exact hD.1.2.2.2.2.2.1) (fun c hc => by show S2.2.1 c = _; rw [g3.2.1 c hc, r3.2.1 c hc]; rfl) (fun c hc => by rw [gI_ne _ _ _ hc, g4.1 c hc, r4.1 c hc, gI_ne _ _ _ hc]) (fun j h1 h2 h3 => by rw [gI_same, up_n _ _ (by omega), g4.2.2 j h1, r4.2.2 j h1, gI_same, up_n _ _ (by omega)]) (by rw [gI_same, up_n _ _ (by decide), gI_same, up_n _ _ (by decide), g4.2.2 53 (by decide), g3.1 21 (by decide), r4.2.2 53 (by decide), r3.1 21 (by decide)]; exact hD.2.1.1.2.2.2.2.1) (by rw [gI_same, up_n _ _ (by decide), gI_same, up_n _ _ (by decide), g4.2.2 54 (by decide), g3.1 21 (by decide), r4.2.2 54 (by decide), r3.1 21 (by decide)]; exact hD.2.1.1.2.2.2.2.2) (by rw [gI_same, up_s, gI_same, up_s]) (fun c hc => by show M2.2.1 c = _; rw [g4.2.1 c hc, r4.2.1 c hc]; rfl) ⟨a1, b1, c1, true, ?_, by rw [gI_same, up_n _ _ (by decide), g4.2.2 62 (by decide), r4.2.2 62 (by decide)]; exact x2, by rw [gI_same, up_n _ _ (by decide), g4.2.2 63 (by decide), r4.2.2 63 (by decide)]; exact x3, by rw [gI_same, up_n _ _ (by decide), g4.2.2 64 (by decide), r4.2.2 64 (by decide)]; exact x4, by rw [gI_same, up_n _ _ (by decide), g4.2.2 65 (by decide), r4.2.2 65 (by decide)]; rfl⟩⟩
      show S2.1 18 6 = _
      rw [g3.1 18 (by decide), r3.1 18 (by decide), gI_same, up_s, x1]
      exact to
  · refine Or.inr ⟨x_putI S2 21 19 (-1), x_putI M2 0 55 r, fun K H => e_Rd_readDraw (preC _ (br_nf (by decide) (g1 _ (br_t rfl H)))), fun K H => preM _ (g2 _ H), ?_, ?_, ?_⟩
    · exact (FPc.put (by omega)).tr (r3.pc.tr (g3.1.pc.tr (FPc.put (by omega))))
    · exact fz.1.tr (r4.pm.tr (g3.2.1.pm.tr (FZ.put0 (by decide) (by decide) (by decide)).1))
    · exact (g3.2.2.z (FZ.put0 (by decide) (by decide) (by decide))).s rfl
end
end
