section
variable {hc hm : xH} {d e : Nat} {S M : xSt}
section
variable {t : Nat → Nat} {n k v q p nm nd nb nf hd st : Nat} {l : List Nat}
theorem DR_deed {S' M' : xSt} (h : DR nm nd nb nf hd st S M) (h6 : nd < 6) {a : Nat} (ha : 1 ≤ a ∧ a ≤ 24)
    (s1 : ∀ c, c ≠ 19 → c ≠ 21 → c ≠ 25 → S'.1 c = S.1 c) (s2 : ∀ j, j ≠ 4 → S'.1 21 j = S.1 21 j) (s3 : S'.1 21 4 = nI (nd + 1)) (s4 : S'.1 25 = upd (S.1 25) nd (nI a))
    (m1 : ∀ c, c ≠ 0 → c ≠ 13 → M'.1 c = M.1 c) (m2 : ∀ j, j < 2 ∨ 8 < j → j ≠ 50 → M'.1 0 j = M.1 0 j) (m3 : M'.1 0 50 = nI (nd + 1)) (m4 : M'.1 13 = upd (M.1 13) nd (nI a))
    (n1 : NRel 38 0 nm S' M') (n2 : NRel 39 6 (nd + 1) S' M') (n3 : NRel 40 12 nb S' M') : DR nm (nd + 1) nb nf hd st S' M' := by
  obtain ⟨⟨t1, t2, t3, t4, t5, t6, t7, t8, t9, t10, t11⟩, ⟨⟨r1, r2, r3, r4, r5, r6⟩, r7, r8, r9, r10⟩, w, o, -, sn, dr⟩ := h
  have f : ∀ c, c ≠ 19 → c ≠ 21 → c ≠ 25 → S'.1 c = S.1 c := s1
  refine ⟨⟨?_, ⟨s3, by omega⟩, ?_, ?_, ?_, ?_, ?_, fun x hx => ?_, fun b' hb' => ?_, ?_, ?_⟩, ⟨⟨?_, ?_, ?_, ?_, ?_, ?_⟩, ?_, fun x hx => ?_, ?_, ?_⟩, ?_, ?_, ⟨n1, n2, n3⟩, ?_, ?_⟩
  · rw [s2 0 (by decide)]; exact t1
  · rw [s2 6 (by decide)]; exact t3
  · rw [s2 14 (by decide)]; exact t4
  · rw [s2 17 (by decide)]; exact t5
  · rw [s2 18 (by decide)]; exact t6
  · rw [f 22 (by decide) (by decide) (by decide), f 23 (by decide) (by decide) (by decide), f 24 (by decide) (by decide) (by decide)]; exact t7
  · rw [s4]
    by_cases y : x = nd
    · rw [y, up_s]; exact ⟨a, ha.1, ha.2, rfl⟩
    · rw [up_n _ _ y]; exact t8 x (by omega)
  · rw [f 26 (by decide) (by decide) (by decide), f 27 (by decide) (by decide) (by decide), f 28 (by decide) (by decide) (by decide), f 29 (by decide) (by decide) (by decide), f 30 (by decide) (by decide) (by decide), f 31 (by decide) (by decide) (by decide), f 32 (by decide) (by decide) (by decide)]
    obtain ⟨g1, g2, ⟨k3, g3, g4⟩, g5⟩ := t9 b' hb'
    exact ⟨g1, g2, ⟨k3, by omega, g4⟩, g5⟩
  · rw [f 33 (by decide) (by decide) (by decide)]; exact t10
  · rw [f 33 (by decide) (by decide) (by decide)]; exact t11
  · rw [m2 49 (by decide) (by decide), s2 0 (by decide)]; exact r1
  · rw [m3, s3]
  · rw [m2 51 (by decide) (by decide), s2 6 (by decide)]; exact r3
  · rw [m2 52 (by decide) (by decide), s2 14 (by decide)]; exact r4
  · rw [m2 53 (by decide) (by decide), s2 17 (by decide)]; exact r5
  · rw [m2 54 (by decide) (by decide), s2 18 (by decide)]; exact r6
  · rw [f 22 (by decide) (by decide) (by decide), f 23 (by decide) (by decide) (by decide), f 24 (by decide) (by decide) (by decide), m1 10 (by decide) (by decide), m1 11 (by decide) (by decide), m1 12 (by decide) (by decide)]; exact r7
  · rw [m4, s4]
    by_cases y : x = nd
    · rw [y, up_s, up_s]
    · rw [up_n _ _ y, up_n _ _ y]; exact r8 x (by omega)
  · rw [f 26 (by decide) (by decide) (by decide), f 27 (by decide) (by decide) (by decide), f 28 (by decide) (by decide) (by decide), f 29 (by decide) (by decide) (by decide), f 30 (by decide) (by decide) (by decide), f 31 (by decide) (by decide) (by decide), f 32 (by decide) (by decide) (by decide), m1 20 (by decide) (by decide), m1 21 (by decide) (by decide), m1 22 (by decide) (by decide), m1 23 (by decide) (by decide), m1 24 (by decide) (by decide), m1 25 (by decide) (by decide), m1 32 (by decide) (by decide)]; exact r9
  · rw [f 33 (by decide) (by decide) (by decide), m1 14 (by decide) (by decide)]; exact r10
  · rw [f 34 (by decide) (by decide) (by decide), f 35 (by decide) (by decide) (by decide), m2 62 (by decide) (by decide), m2 17 (by decide) (by decide), m2 20 (by decide) (by decide), m1 3 (by decide) (by decide), m1 4 (by decide) (by decide)]; exact w
  · rw [f 33 (by decide) (by decide) (by decide)]; exact o
  · rw [f 18 (by decide) (by decide) (by decide), m2 62 (by decide) (by decide), m2 63 (by decide) (by decide), m2 64 (by decide) (by decide), m2 65 (by decide) (by decide)]; exact sn
  · rw [m2 55 (by decide) (by decide), m2 62 (by decide) (by decide), s2 19 (by decide), f 34 (by decide) (by decide) (by decide)]; exact dr
theorem lineDeed (h : QJ t n k v l q p S M) (hk : 2 ≤ k) (hD : DR nm nd nb nf hd st S M) (h6 : nd < 6) : LJ t n p (M_Rd_readDeed hc d S) (M_M_readDeed hm e M) S M := by
  have em : S.1 21 4 = nI nd := hD.1.2.1.1
  have emM : M.1 0 50 = nI nd := by rw [hD.2.1.1.2.1]; exact em
  have c6 : (nI nd).toNatClampNeg = nd := nCl (by omega)
  have v6 : vp_in (nI nd) 6 := vIn (by omega) (by omega)
  have nm6 := hD.1.1.2
  obtain ⟨S1, a1, a2, a3⟩ := newJ (hc := hc) (hm := hm) (e := e + 1) h hk (c := 39) (from' := 6) (cnt := nd) (nr := 6) rfl (by decide) h6 (by omega) (by omega) hD.2.2.2.2.1.2.1 (d1 := d) (d2 := d + 8) (d3 := d + 1)
  rcases a3 with ⟨S2, M2, b1, b2, b3, b4, b5, b6, b7, b8, b9, k2, v2, l2, q2, p2, b10, b11, b12⟩ | ⟨S2, M2, b1, b2, b3⟩
  · have e2 : M2.1 0 50 = nI nd := by rw [b8 50 (by decide)]; exact emM
    have s2e : S2.1 21 4 = nI nd := by rw [b5 21 (by decide)]; exact em
    have preC : ∀ K, M_Tk_takesWord hc d 5 S2 (fun (r4) (S4) => ((¬ r4 = 0 → M_Rd_number hc d 1 24 S4 (fun (r5) (S5) => (vp_in (nI nd) 6 ∧ (vp_in (nI nd) 6 ∧ ((r5 = (-1) → K 0 (x_putI (x_putI S5 25 nd r5) 21 4 ((S5.1 21 4) + (1)))) ∧ (¬ r5 = (-1) → K 1 (x_putI (x_putI S5 25 nd r5) 21 4 ((S5.1 21 4) + (1))))))))) ∧ (r4 = 0 → K 0 S4))) → M_Rd_readDeed hc d S K := by
      intro K H
      refine e_Rd_readDeed ?_
      rw [em, c6]
      exact e_Rd_opens (br_t ((nLt (b := 6) (by omega) (by omega)).mpr h6) (a1 _ (br_f (by decide) (b1 _ (br_nf (by decide) ⟨v6, b2 _ H⟩)))))
    have preM : ∀ K, M_M_told hm e 448546566771 1 24 M2 (fun (r2) (S2) => (vp_in (nI nd) 6 ∧ ((¬ (S2.1 0 2) = 0 → K (x_putI S2 13 nd r2)) ∧ ((S2.1 0 2) = 0 → K (x_putI (x_putI S2 13 nd r2) 0 50 ((S2.1 0 50) + (1))))))) → M_M_readDeed hm e M K := by
      intro K H
      refine e_M_readDeed ?_
      rw [emM]
      refine b3 _ ?_
      rw [e2, c6]
      exact H
    have pcS2 : FPc S S2 := fun c hc => b5 c (by omega)
    have z1 : ∀ c, c ∈ kM → c ≠ 0 := by decide
    have z2 : ∀ j, j ∈ kJ → j < 2 ∨ 8 < j := by decide
    have pmM2 : FPm M M2 := ⟨fun c hc => b7 c (z1 c hc), fun j hj => b8 j (z2 j hj)⟩
    rcases wantJ (hc := hc) (d := d) (hm := hm) (e := e) b10 (w := 5) (by omega) kc5 with ⟨S3, M3, g1, g2, g3, g4, k3, v3, l3, q3, p3, g5, g6, g7⟩ | ⟨S3, M3, g1, g2, g3⟩
    · rcases numJ (hc := hc) (d := d) (hm := hm) (e := e) g5 (a := 1) (b := 24) (by omega) (by omega) with ⟨r, h1, h2, S4, M4, u1, u2, u3, u4, k4, v4, l4, q4, p4, u5, u6, u7⟩ | ⟨S4, M4, r, u1, u2, u3⟩
      · have s4e : S4.1 21 = S.1 21 := by rw [u3.1 21 (by decide), g3.1 21 (by decide)]; exact b5 21 (by decide)
        have m4e : M4.1 0 50 = nI nd := by rw [u4.2.2 50 (by decide), g4.2.2 50 (by decide)]; exact e2
        have f4 : M4.1 0 2 = 0 := u5.2.2.2.1
        have es : x_putI (x_putI S4 25 nd (nI r)) 21 4 (S4.1 21 4 + 1) = x_putI (x_putI S4 25 nd (nI r)) 21 4 (nI (nd + 1)) := by rw [s4e, em, nI_1]
        have eM : x_putI (x_putI M4 13 nd (nI r)) 0 50 (M4.1 0 50 + 1) = x_putI (x_putI M4 13 nd (nI r)) 0 50 (nI (nd + 1)) := by rw [m4e, nI_1]
        refine Or.inl ⟨x_putI (x_putI S4 25 nd (nI r)) 21 4 (nI (nd + 1)), x_putI (x_putI M4 13 nd (nI r)) 0 50 (nI (nd + 1)), fun K H => preC K (g1 _ (br_nf (by decide) (u1 _ ⟨v6, v6, br_f (nM1 (by omega)) (by rw [es]; exact H)⟩))), fun K H => preM K (e_M_told (g2 _ (u2 _ ⟨v6, br_nt f4 (by rw [eM]; exact H)⟩))), ?_, ?_, ?_, ?_⟩
        · exact pcS2.tr (g3.pc.tr (u3.pc.tr ((FPc.put (by omega)).tr (FPc.put (by omega)))))
        · exact pmM2.tr (g4.pm.tr (u4.pm.tr ((FZ.put (M := M4) (by decide) (by decide)).1.tr (FZ.put0 (by decide) (by decide) (by decide)).1)))
        · refine ⟨k4, v4, l4, q4, p4, u5.fr rfl rfl rfl rfl rfl (fun j h1 h2 => by rw [gI_same, up_n _ _ (by omega)]; rfl) rfl, by omega, u7⟩
        · refine ⟨nm, nd + 1, nb, nf, hd, st, DR_deed hD h6 ⟨h1, h2⟩ (fun c h1 h2 h3 => by rw [gI_ne _ _ _ h2, gI_ne _ _ _ h3, u3.1 c h1, g3.1 c h1]; exact b5 c h1) (fun j hj => by rw [gI_same, up_n _ _ hj, gI_ne _ _ _ (by decide), s4e]) (by rw [gI_same, up_s]) (by rw [gI_ne _ _ _ (by decide), gI_same, u3.1 25 (by decide), g3.1 25 (by decide), b5 25 (by decide)]) (fun c h1 h2 => by rw [gI_ne _ _ _ h1, gI_ne _ _ _ h2, u4.1 c h1, g4.1 c h1]; exact b7 c h1) (fun j hj h5 => by rw [gI_same, up_n _ _ h5, gI_ne _ _ _ (by decide), u4.2.2 j hj, g4.2.2 j hj]; exact b8 j hj) (by rw [gI_same, up_s]) (by rw [gI_ne _ _ _ (by decide), gI_same, u4.1 13 (by decide), g4.1 13 (by decide), b7 13 (by decide)]) ?_ ?_ ?_⟩
          · exact hD.2.2.2.2.1.1.fr (fun i _ => by show S4.2.1 38 i = _; rw [u3.2.1 38 (by decide), g3.2.1 38 (by decide), b6 38 (by decide) (by decide)]) (fun i hi => by show M4.2.1 2 _ = _; rw [u4.2.1 2 (by decide), g4.2.1 2 (by decide), b9 _ (by omega)])
          · exact b4.fr (fun i _ => by show S4.2.1 39 i = _; rw [u3.2.1 39 (by decide), g3.2.1 39 (by decide)]) (fun i _ => by show M4.2.1 2 _ = _; rw [u4.2.1 2 (by decide), g4.2.1 2 (by decide)])
          · exact hD.2.2.2.2.1.2.2.fr (fun i _ => by show S4.2.1 40 i = _; rw [u3.2.1 40 (by decide), g3.2.1 40 (by decide), b6 40 (by decide) (by decide)]) (fun i hi => by show M4.2.1 2 _ = _; rw [u4.2.1 2 (by decide), g4.2.1 2 (by decide), b9 _ (by omega)])
      · refine Or.inr ⟨x_putI (x_putI S4 25 nd (-1)) 21 4 (S4.1 21 4 + 1), x_putI M4 13 nd r, fun K H => preC K (g1 _ (br_nf (by decide) (u1 _ ⟨v6, v6, br_t rfl H⟩))), fun K H => preM K (e_M_told (g2 _ (u2 _ ⟨v6, br_nf u3.2.2.bad.2 H⟩))), ?_, ?_, ?_⟩
        · exact pcS2.tr (g3.pc.tr (u3.1.pc.tr ((FPc.put (by omega)).tr (FPc.put (by omega)))))
        · exact pmM2.tr (g4.pm.tr (u3.2.1.pm.tr (FZ.put (M := M4) (by decide) (by decide)).1))
        · exact (u3.2.2.z (FZ.put (by decide) (by decide))).s rfl
    · refine Or.inr ⟨S3, x_putI M3 13 nd 0, fun K H => preC K (g1 _ (br_nt rfl H)), fun K H => preM K (e_M_told (g2 _ (toldN_f g3.2.2.bad ⟨v6, br_nf g3.2.2.bad.2 H⟩))), ?_, ?_, ?_⟩
      · exact pcS2.tr g3.1.pc
      · exact pmM2.tr (g3.2.1.pm.tr (FZ.put (M := M3) (by decide) (by decide)).1)
      · exact g3.2.2.z (FZ.put (by decide) (by decide))
  · have e2 : M2.1 0 50 = nI nd := by rw [b3.2.1.2.2 50 (by decide)]; exact emM
    refine Or.inr ⟨S2, x_putI M2 13 nd 0, fun K H => e_Rd_readDeed ?_, fun K H => e_M_readDeed ?_, b3.1.pc, b3.2.1.pm.tr (FZ.put (M := M2) (by decide) (by decide)).1, b3.2.2.z (FZ.put (by decide) (by decide))⟩
    · rw [em]
      exact e_Rd_opens (br_t ((nLt (b := 6) (by omega) (by omega)).mpr h6) (a1 _ (br_f (by decide) (b1 _ (br_nt rfl H)))))
    · rw [emM]
      refine b2 _ ?_
      rw [e2, c6]
      exact told_f b3.2.2.bad ⟨v6, br_nf b3.2.2.bad.2 H⟩
end
end
