section
variable {hc hm : xH} {d e : Nat} {S M : xSt}
section
variable {t : Nat → Nat} {n k v q p nm nd nb nf hd st : Nat} {l : List Nat}
abbrev RB3 (hc : xH) (d nb : Nat) (S : xSt) (K : Int32 → xSt → Prop) : Prop := M_Rd_optional hc d 11 1 60 60 S (fun (r6) (S6) => (vp_in (nI nb) 10 ∧ (vp_in (nI nb) 10 ∧ ((¬ r6 = (-1) → M_Rd_optional hc d 12 1 99 10 (x_putI S6 30 nb r6) (fun (r7) (S7) => (vp_in (nI nb) 10 ∧ (vp_in (nI nb) 10 ∧ ((r7 = (-1) → K 0 (x_putI S7 31 nb r7)) ∧ (¬ r7 = (-1) → M_Rd_readAfter hc (d + 1) (nI nb) (x_putI S7 31 nb r7) (fun (r8) (S8) => ((¬ r8 = 0 → K 1 (x_putI S8 21 6 ((S8.1 21 6) + (1)))) ∧ (r8 = 0 → K 0 S8))))))))) ∧ (r6 = (-1) → K 0 (x_putI S6 30 nb r6))))))
theorem restJ (h : QJ t n k v l q p S M) (hk : k ≤ 5) (hnb : nb < 10) (e1 : S.1 21 6 = nI nb) (e2 : M.1 0 51 = nI nb) (hN : NRel 40 12 nb S M) : (∃ r6 r7 S' M', (1 ≤ r6 ∧ r6 ≤ 60) ∧ (1 ≤ r7 ∧ r7 ≤ 99) ∧ (∀ K : Int32 → xSt → Prop, K 1 (x_putI S' 21 6 (S'.1 21 6 + 1)) → RB3 hc d nb S K) ∧ (∀ K, B_M_readButton_282 hm e M' K → B_M_readButton_191 hm e (nI nb) M K) ∧ BP nb [30, 31, 32] [23, 24, 25, 25] S M S' M' ∧ S'.1 30 nb = nI r6 ∧ S'.1 31 nb = nI r7 ∧ (S'.1 32 nb = -1 ∨ ∃ k, k < nb ∧ S'.1 32 nb = nI k) ∧ M'.1 23 nb = nI r6 ∧ M'.1 24 nb = nI r7 ∧ M'.1 25 nb = S'.1 32 nb ∧ ∃ k' v' l' q' p', QJ t n k' v' l' q' p' S' M' ∧ q ≤ q' ∧ k' ≤ 5) ∨ (∃ S' M', (∀ K : Int32 → xSt → Prop, K 0 S' → RB3 hc d nb S K) ∧ (∀ K, K M' → B_M_readButton_191 hm e (nI nb) M K) ∧ FPc S S' ∧ FPm M M' ∧ FJ S' M') := by
  have vb : vp_in (nI nb) 10 := vIn (by omega) (by omega)
  have cb : (nI nb).toNatClampNeg = nb := nCl (by omega)
  unfold RB3
  rcases optJ (hc := hc) (d := d) (hm := hm) (e := e) h hk (w := 11) (by omega) kc11 (a := 1) (b := 60) (o := 60) (by omega) (by omega) with ⟨r, hr, S3, M3, g1, g2, g3, g4, k3, v3, l3, q3, p3, g5, g6, g7⟩ | ⟨S3, M3, r, g1, g2, g3⟩
  · have hr6 : 1 ≤ r ∧ r ≤ 60 := by omega
    have hq3 : QJ t n k3 v3 l3 q3 p3 (x_putI S3 30 nb (nI r)) (x_putI M3 23 nb (nI r)) := g5.fr rfl rfl rfl rfl rfl (fun _ _ _ => rfl) rfl
    have b3 : BP nb [30] [23] S M (x_putI S3 30 nb (nI r)) (x_putI M3 23 nb (nI r)) := ((BP.tk g3 g4).tr (BP.s (c := 30))).tr (BP.m (c := 23) (by decide))
    rcases optJ (hc := hc) (d := d) (hm := hm) (e := e) hq3 g7 (w := 12) (by omega) kc12 (a := 1) (b := 99) (o := 10) (by omega) (by omega) with ⟨r', hr', S4, M4, u1, u2, u3, u4, k4, v4, l4, q4, p4, u5, u6, u7⟩ | ⟨S4, M4, r', u1, u2, u3⟩
    · have hr7 : 1 ≤ r' ∧ r' ≤ 99 := by omega
      have f4 : M4.1 0 2 = 0 := u5.2.2.2.1
      have hq4 : QJ t n k4 v4 l4 q4 p4 (x_putI S4 31 nb (nI r')) (x_putI (x_putI M4 24 nb (nI r')) 25 nb (-1)) := u5.fr rfl rfl rfl rfl rfl (fun _ _ _ => rfl) rfl
      have b4 : BP nb [30, 31] [23, 24, 25] S M (x_putI S4 31 nb (nI r')) (x_putI (x_putI M4 24 nb (nI r')) 25 nb (-1)) := ((b3.tr (BP.tk u3 u4)).tr (BP.s (c := 31))).tr ((BP.m (c := 24) (v := nI r') (by decide)).tr (BP.m (c := 25) (by decide)))
      have s4 : (x_putI S4 31 nb (nI r')).1 21 6 = nI nb := by rw [b4.1 21 (by decide) (by decide)]; exact e1
      have m4 : (x_putI (x_putI M4 24 nb (nI r')) 25 nb (-1)).1 0 51 = nI nb := by rw [b4.2.2.2.2.2.2 51 (by decide)]; exact e2
      have preC : ∀ K : Int32 → xSt → Prop, M_Rd_readAfter hc (d + 1) (nI nb) (x_putI S4 31 nb (nI r')) (fun (r8) (S8) => ((¬ r8 = 0 → K 1 (x_putI S8 21 6 ((S8.1 21 6) + (1)))) ∧ (r8 = 0 → K 0 S8))) → RB3 hc d nb S K := fun K H => g1 _ ⟨vb, vb, br_nf (nM1 (by omega)) (u1 _ ⟨vb, vb, br_f (nM1 (by omega)) H⟩)⟩
      have preM : ∀ K, RB2 hm e (nI nb) (x_putI (x_putI M4 24 nb (nI r')) 25 nb (-1)) K → B_M_readButton_191 hm e (nI nb) M K := by
        intro K H
        refine b_M_readButton_191 (g2 _ ⟨vb, ?_⟩)
        rw [cb]
        refine u2 _ ⟨vb, vb, br_nt f4 ?_⟩
        unfold RB2 at H
        rw [cb] at H
        exact H
      rcases afterJ (hc := hc) (d := d + 1) (hm := hm) (e := e) hq4 u7 hnb s4 m4 (b4.nr (by decide) hN) (by rw [gI_same, up_s]) with ⟨S5, M5, w1, w2, w3, w4, w5, k5, v5, l5, q5, p5, w6, w7, w8⟩ | ⟨S5, M5, w1, w2, w3, w4, w5⟩
      · have b5 : BP nb [30, 31, 32] [23, 24, 25, 25] S M S5 M5 := b4.tr w3
        refine Or.inl ⟨r, r', S5, M5, hr6, hr7, fun K H => preC K (w1 _ (br_nf (by decide) H)), fun K H => preM K (w2 _ H), b5, ?_, ?_, w4, ?_, ?_, w5, k5, v5, l5, q5, p5, w6, by omega, w8⟩
        · rw [w3.1 30 (by decide) (by decide), gI_ne _ _ _ (by decide), u3.1 30 (by decide), gI_same, up_s]
        · rw [w3.1 31 (by decide) (by decide), gI_same, up_s]
        · rw [w3.2.2.2.1 23 (by decide) (by decide), gI_ne _ _ _ (by decide), gI_ne _ _ _ (by decide), u4.1 23 (by decide), gI_same, up_s]
        · rw [w3.2.2.2.1 24 (by decide) (by decide), gI_ne _ _ _ (by decide), gI_same, up_s]
      · exact Or.inr ⟨S5, M5, fun K H => preC K (w1 _ (br_nt rfl H)), fun K H => preM K (w2 _ H), (b4.pc (by decide)).tr w3, (b4.pm (by decide)).tr w4, w5⟩
    · have f1 : FZ M4 (x_putI M4 24 nb r') := FZ.put (by decide) (by decide)
      have f2 : FZ (x_putI M4 24 nb r') (x_putI (x_putI M4 24 nb r') 25 nb (-1)) := FZ.put (by decide) (by decide)
      refine Or.inr ⟨x_putI S4 31 nb (-1), x_putI (x_putI M4 24 nb r') 25 nb (-1), fun K H => g1 _ ⟨vb, vb, br_nf (nM1 (by omega)) (u1 _ ⟨vb, vb, br_t rfl H⟩)⟩, fun K H => b_M_readButton_191 (g2 _ ⟨vb, ?_⟩), ?_, ?_, ?_⟩
      · rw [cb]
        exact u2 _ ⟨vb, vb, br_nf u3.2.2.bad.2 (but_282 (u3.2.2.bad.z (f1.tr f2)) H)⟩
      · exact (b3.pc (by decide)).tr (u3.1.pc.tr (FPc.put (by omega)))
      · exact (b3.pm (by decide)).tr (u3.2.1.pm.tr (f1.tr f2).1)
      · exact (u3.2.2.z (f1.tr f2)).s rfl
  · have f1 : FZ M3 (x_putI M3 23 nb r) := FZ.put (by decide) (by decide)
    have f2 : FZ (x_putI M3 23 nb r) (x_putI (x_putI M3 23 nb r) 24 nb 10) := FZ.put (by decide) (by decide)
    have f3 : FZ (x_putI (x_putI M3 23 nb r) 24 nb 10) (x_putI (x_putI (x_putI M3 23 nb r) 24 nb 10) 25 nb (-1)) := FZ.put (by decide) (by decide)
    refine Or.inr ⟨x_putI S3 30 nb (-1), x_putI (x_putI (x_putI M3 23 nb r) 24 nb 10) 25 nb (-1), fun K H => g1 _ ⟨vb, vb, br_nt rfl H⟩, fun K H => b_M_readButton_191 (g2 _ ⟨vb, ?_⟩), ?_, ?_, ?_⟩
    · rw [cb]
      exact opt_f (g3.2.2.bad.z f1) ⟨vb, vb, br_nf (g3.2.2.bad.z f1).2 (but_282 (g3.2.2.bad.z ((f1.tr f2).tr f3)) H)⟩
    · exact g3.1.pc.tr (FPc.put (by omega))
    · exact g3.2.1.pm.tr ((f1.tr f2).tr f3).1
    · exact (g3.2.2.z ((f1.tr f2).tr f3)).s rfl
theorem lineButton (h : QJ t n k v l q p S M) (hk : 2 ≤ k) (hD : DR nm nd nb nf hd st S M) (h6 : nb < 10) : LJ t n p (M_Rd_readButton hc d S) (M_M_readButton hm e M) S M := by
  have em : S.1 21 6 = nI nb := hD.1.2.2.1.1
  have emM : M.1 0 51 = nI nb := by rw [hD.2.1.1.2.2.1]; exact em
  have em0 : S.1 21 0 = nI nm := hD.1.1.1
  have em0M : M.1 0 49 = nI nm := by rw [hD.2.1.1.1]; exact em0
  have em4 : S.1 21 4 = nI nd := hD.1.2.1.1
  have em4M : M.1 0 50 = nI nd := by rw [hD.2.1.1.2.1]; exact em4
  have c6 : (nI nb).toNatClampNeg = nb := nCl (by omega)
  have v6 : vp_in (nI nb) 10 := vIn (by omega) (by omega)
  have nm6 := hD.1.1.2
  have nd6 := hD.1.2.1.2
  obtain ⟨S1, a1, a2, a3⟩ := newJ (hc := hc) (hm := hm) (e := e + 2) h hk (c := 40) (from' := 12) (cnt := nb) (nr := 10) rfl (by decide) h6 (by omega) (by omega) hD.2.2.2.2.1.2.2 (d1 := d + 1) (d2 := d + 9) (d3 := d + 2)
  rcases a3 with ⟨S2, M2, b1, b2, b3, b4, b5, b6, b7, b8, b9, k2, v2, l2, q2, p2, b10, b11, b12⟩ | ⟨S2, M2, b1, b2, b3⟩
  · have e2 : M2.1 0 51 = nI nb := by rw [b8 51 (by decide)]; exact emM
    have e20 : M2.1 0 49 = nI nm := by rw [b8 49 (by decide)]; exact em0M
    have e24 : M2.1 0 50 = nI nd := by rw [b8 50 (by decide)]; exact em4M
    have s2 : S2.1 21 = S.1 21 := b5 21 (by decide)
    have preC : ∀ K, M_Rd_readWhose hc d (nI nb) S2 (fun (r4) (S4) => ((r4 = 0 → K 0 S4) ∧ (¬ r4 = 0 → M_Rd_readPromise hc (d + 1) (nI nb) S4 (fun (r5) (S5) => ((¬ r5 = 0 → RB3 hc d nb S5 K) ∧ (r5 = 0 → K 0 S5)))))) → M_Rd_readButton hc d S K := by
      intro K H
      refine e_Rd_readButton ?_
      rw [em, c6]
      exact e_Rd_opens (br_t ((nLt (b := 10) (by omega) (by omega)).mpr h6) (a1 _ (br_f (by decide) (b1 _ (br_nf (by decide) ⟨v6, b2 _ H⟩)))))
    have preM : ∀ K, RB1 hm e (nI nb) M2 K → M_M_readButton hm e M K := by
      intro K H
      refine e_M_readButton ?_
      rw [emM]
      refine b3 _ ?_
      rw [e2]
      exact H
    have pcS2 : FPc S S2 := fun c hc => b5 c (by omega)
    have z1 : ∀ c, c ∈ kM → c ≠ 0 := by decide
    have z2 : ∀ j, j ∈ kJ → j < 2 ∨ 8 < j := by decide
    have pmM2 : FPm M M2 := ⟨fun c hc => b7 c (z1 c hc), fun j hj => b8 j (z2 j hj)⟩
    have n38 : NRel 38 0 nm S2 M2 := hD.2.2.2.2.1.1.fr (fun i _ => by rw [b6 38 (by decide) (by decide)]) (fun i hi => by rw [b9 _ (by omega)])
    have n39 : NRel 39 6 nd S2 M2 := hD.2.2.2.2.1.2.1.fr (fun i _ => by rw [b6 39 (by decide) (by decide)]) (fun i hi => by rw [b9 _ (by omega)])
    rcases whoseJ (hc := hc) (d := d) (hm := hm) (e := e) b10 h6 nm6 (by rw [s2]; exact em0) e20 n38 with ⟨i1, i2, S3, M3, hi1, hi2, g1, g2, g3, g4, g5, g6, g7, k3, v3, l3, q3, p3, g8, g9, g10⟩ | ⟨S3, M3, g1, g2, g3, g4, g5⟩
    · rcases promJ (hc := hc) (d := d + 1) (hm := hm) (e := e) g8 h6 nd6 (by rw [g3.1 21 (by decide) (by decide), s2]; exact em4) (by rw [g3.2.2.2.2.2.2 50 (by decide)]; exact e24) (g3.nr (by decide) n39) with ⟨i3, S4, M4, hi3, u1, u2, u3, u4, u5, u6, u7, k4, v4, l4, q4, p4, u8, u9, u10⟩ | ⟨S4, M4, u1, u2, u3, u4, u5⟩
      · have b34 := g3.tr u3
        rcases restJ (hc := hc) (d := d) (hm := hm) (e := e) u8 u10 h6 (by rw [b34.1 21 (by decide) (by decide), s2]; exact em) (by rw [b34.2.2.2.2.2.2 51 (by decide)]; exact e2) (b34.nr (by decide) (b4.lt (by omega))) with ⟨r6, r7, S5, M5, hr6, hr7, w1, w2, w3, w4, w5, w6, w7, w8, w9, k5, v5, l5, q5, p5, w10, w11, w12⟩ | ⟨S5, M5, w1, w2, w3, w4, w5⟩
        · have b35 := b34.tr w3
          have s521 : S5.1 21 = S.1 21 := by rw [b35.1 21 (by decide) (by decide)]; exact s2
          have m51 : M5.1 0 51 = nI nb := by rw [b35.2.2.2.2.2.2 51 (by decide)]; exact e2
          have f5 : M5.1 0 2 = 0 := w10.2.2.2.1
          have es : x_putI S5 21 6 (S5.1 21 6 + 1) = x_putI S5 21 6 (nI (nb + 1)) := by rw [s521, em, nI_1]
          have eM : x_putI M5 0 51 (M5.1 0 51 + 1) = x_putI M5 0 51 (nI (nb + 1)) := by rw [m51, nI_1]
          refine Or.inl ⟨x_putI S5 21 6 (nI (nb + 1)), x_putI M5 0 51 (nI (nb + 1)), fun K H => preC K (g1 _ (br_f (by decide) (u1 _ (br_nf (by decide) (w1 K ?_))))), fun K H => preM K (g2 _ (u2 _ (w2 _ (b_M_readButton_282 (br_nt f5 ?_))))), ?_, ?_, ?_, ?_⟩
          · rw [es]; exact H
          · rw [eM]; exact H
          · exact pcS2.tr ((b35.pc (by decide)).tr (FPc.put (by omega)))
          · exact pmM2.tr ((b35.pm (by decide)).tr (FZ.put0 (by decide) (by decide) (by decide)).1)
          · exact ⟨k5, v5, l5, q5, p5, w10.fr rfl rfl rfl rfl rfl (fun j h1 h2 => by rw [gI_same, up_n _ _ (by omega)]) rfl, by omega, w12⟩
          · have mm : ∀ c, c ≠ 0 → (x_putI M5 0 51 (nI (nb + 1))).1 c = M5.1 c := fun c hc => gI_ne _ _ _ hc
            have ss : ∀ c, c ≠ 21 → (x_putI S5 21 6 (nI (nb + 1))).1 c = S5.1 c := fun c hc => gI_ne _ _ _ hc
            have zs : ∀ c, c < 26 ∨ 32 < c → c ∉ [26, 27] ++ [29, 28] ++ [30, 31, 32] := fun c hc z => by
              simp only [List.cons_append, List.nil_append, List.mem_cons, List.mem_nil_iff, or_false] at z; omega
            have zm : ∀ c, c < 20 ∨ (25 < c ∧ c ≠ 32) → c ∉ [20, 21] ++ [32, 22] ++ [23, 24, 25, 25] := fun c hc z => by
              simp only [List.cons_append, List.nil_append, List.mem_cons, List.mem_nil_iff, or_false] at z; omega
            have S45 : ∀ c, c ≠ 19 → c ∉ [30, 31, 32] → S5.1 c = S4.1 c := w3.1
            have M45 : ∀ c, c ≠ 0 → c ∉ [23, 24, 25, 25] → M5.1 c = M4.1 c := w3.2.2.2.1
            have v26 : S5.1 26 nb = nI i1 := by rw [S45 26 (by decide) (by decide), u3.1 26 (by decide) (by decide)]; exact g4
            have v27 : S5.1 27 nb = nI i2 := by rw [S45 27 (by decide) (by decide), u3.1 27 (by decide) (by decide)]; exact g5
            have v28 : S5.1 28 nb = nI i3 := by rw [S45 28 (by decide) (by decide)]; exact u4
            have v29 : S5.1 29 nb = S4.1 29 nb := by rw [S45 29 (by decide) (by decide)]
            refine ⟨nm, nd, nb + 1, nf, hd, st, DR_button hD h6 hi1 hi2 hi3 hr6 hr7 (fun c h1 h2 h3 => ?_) (fun j hj => ?_) ?_ (fun c h1 h2 i hi => ?_) ?_ ?_ ?_ ?_ ?_ ?_ ?_ (fun c h1 h2 => ?_) (fun j hj h5 => ?_) ?_ (fun c h1 i hi => ?_) ?_ ?_ ?_ ?_ ?_ ?_ ?_ ?_ ?_ ?_⟩
            · rw [ss c h2, b35.1 c h1 (zs c h3)]; exact b5 c h1
            · rw [gI_same, up_n _ _ hj, s521]
            · rw [gI_same, up_s]
            · rw [ss c (by omega), b35.2.1 c (by omega) i hi, b5 c (by omega)]
            · rw [ss 26 (by decide)]; exact v26
            · rw [ss 27 (by decide)]; exact v27
            · rw [ss 28 (by decide)]; exact v28
            · rw [ss 29 (by decide), v29]; exact u5
            · rw [ss 30 (by decide)]; exact w4
            · rw [ss 31 (by decide)]; exact w5
            · rw [ss 32 (by decide)]; exact w6
            · rw [mm c h1, b35.2.2.2.1 c h1 (zm c h2)]; exact b7 c h1
            · rw [gI_same, up_n _ _ h5, b35.2.2.2.2.2.2 j hj]; exact b8 j hj
            · rw [gI_same, up_s]
            · rw [mm c (by omega), b35.2.2.2.2.1 c (by omega) i hi, b7 c (by omega)]
            · rw [mm 20 (by decide), ss 26 (by decide), v26, M45 20 (by decide) (by decide), u3.2.2.2.1 20 (by decide) (by decide)]; exact g6
            · rw [mm 21 (by decide), ss 27 (by decide), v27, M45 21 (by decide) (by decide), u3.2.2.2.1 21 (by decide) (by decide)]; exact g7
            · rw [mm 22 (by decide), ss 28 (by decide), v28, M45 22 (by decide) (by decide)]; exact u6
            · rw [mm 32 (by decide), ss 29 (by decide), v29, M45 32 (by decide) (by decide)]; exact u7
            · rw [mm 23 (by decide), ss 30 (by decide), w4]; exact w7
            · rw [mm 24 (by decide), ss 31 (by decide), w5]; exact w8
            · rw [mm 25 (by decide), ss 32 (by decide)]; exact w9
            · exact b35.nr (by decide) n38
            · exact b35.nr (by decide) n39
            · exact b35.nr (by decide) b4
        · exact Or.inr ⟨S5, M5, fun K H => preC K (g1 _ (br_f (by decide) (u1 _ (br_nf (by decide) (w1 K H))))), fun K H => preM K (g2 _ (u2 _ (w2 _ H))), pcS2.tr ((b34.pc (by decide)).tr w3), pmM2.tr ((b34.pm (by decide)).tr w4), w5⟩
      · exact Or.inr ⟨S4, M4, fun K H => preC K (g1 _ (br_f (by decide) (u1 _ (br_nt rfl H)))), fun K H => preM K (g2 _ (u2 _ H)), pcS2.tr ((g3.pc (by decide)).tr u3), pmM2.tr ((g3.pm (by decide)).tr u4), u5⟩
    · exact Or.inr ⟨S3, M3, fun K H => preC K (g1 _ (br_t rfl H)), fun K H => preM K (g2 _ H), pcS2.tr g3, pmM2.tr g4, g5⟩
  · have e2 : M2.1 0 51 = nI nb := by rw [b3.2.1.2.2 51 (by decide)]; exact emM
    have f1 : FZ M2 (x_putI M2 20 nb 0) := FZ.put (by decide) (by decide)
    obtain ⟨M7, z1, z2⟩ := but_48 (hm := hm) (e := e) h6 (b3.2.2.bad.z f1)
    refine Or.inr ⟨S2, M7, fun K H => e_Rd_readButton ?_, fun K H => e_M_readButton ?_, b3.1.pc, b3.2.1.pm.tr (f1.tr z1).1, b3.2.2.z (f1.tr z1)⟩
    · rw [em]
      exact e_Rd_opens (br_t ((nLt (b := 10) (by omega) (by omega)).mpr h6) (a1 _ (br_f (by decide) (b1 _ (br_nt rfl H)))))
    · rw [emM]
      refine b2 _ ?_
      rw [e2, c6]
      exact want_f b3.2.2.bad (old_f b3.2.2.bad ⟨v6, br_nf b3.2.2.bad.2 (z2 K H)⟩)
end
end
