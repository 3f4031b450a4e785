section
variable {hc hm : xH} {d e : Nat} {S M : xSt}
section
variable {t : Nat → Nat} {n k v q p nm nd nb : Nat} {l : List Nat}
theorem promJ (h : QJ t n k v l q p S M) (hnb : nb < 10) (hn6 : nd ≤ 6) (e1 : S.1 21 4 = nI nd) (e2 : M.1 0 50 = nI nd) (hN : NRel 39 6 nd S M) : (∃ i3 S' M', i3 < nd ∧ (∀ K, K 1 S' → M_Rd_readPromise hc d (nI nb) S K) ∧ (∀ K, B_M_readButton_191 hm e (nI nb) M' K → B_M_readButton_108 hm e (nI nb) M K) ∧ BP nb [29, 28] [32, 22] S M S' M' ∧ S'.1 28 nb = nI i3 ∧ (S'.1 29 nb = 0 ∨ S'.1 29 nb = 1) ∧ M'.1 22 nb = nI i3 ∧ M'.1 32 nb = S'.1 29 nb ∧ ∃ k' v' l' q' p', QJ t n k' v' l' q' p' S' M' ∧ q ≤ q' ∧ k' ≤ 5) ∨ (∃ S' M', (∀ K, K 0 S' → M_Rd_readPromise hc d (nI nb) S K) ∧ (∀ K, K M' → B_M_readButton_108 hm e (nI nb) M K) ∧ FPc S S' ∧ FPm M M' ∧ FJ S' M') := by
  have vb : vp_in (nI nb) 10 := vIn (by omega) (by omega)
  have cb : (nI nb).toNatClampNeg = nb := nCl (by omega)
  have f0 : M.1 0 2 = 0 := h.2.2.2.1
  by_cases y : k = 3 ∧ (v = 9 ∨ v = 10)
  · -- does, or never
    obtain ⟨x, hx, hx1, hx2, hx3⟩ : ∃ x : Int32, x = (if k = 3 ∧ v = 9 then 1 else 0) ∧ (x = 0 ∨ x = 1) ∧ vp_nar .boolean x = x ∧ (x = 0 → ¬ (k = 3 ∧ v = 9)) := by
      by_cases c : k = 3 ∧ v = 9
      · exact ⟨1, by rw [if_pos c], Or.inr rfl, by decide +kernel, fun z => absurd z (by decide)⟩
      · exact ⟨0, by rw [if_neg c], Or.inl rfl, by decide +kernel, fun _ => c⟩
    have hq1 : QJ t n k v l q p (x_putI S 29 nb x) (x_putI M 32 nb x) := h.fr rfl rfl rfl rfl rfl (fun _ _ _ => rfl) rfl
    have qp := (h.1.2.2.2.2.2.2 (by omega)).2.2.1
    obtain ⟨S1, M1, k1, v1, l1, q1, p1, a1, a2, a3, a4, a5, a6, a7⟩ := advJ (hc := hc) (d := d) (hm := hm) (e := e + 3) hq1 (by omega)
    have b1 : BP nb [29] [32] S M S1 M1 := ((BP.s (c := 29) (v := x)).tr (BP.m (c := 32) (v := x) (by decide))).tr (BP.tk a3 a4)
    have s1 : S1.1 21 4 = nI nd := by rw [b1.1 21 (by decide) (by decide)]; exact e1
    have m1 : M1.1 0 50 = nI nd := by rw [b1.2.2.2.2.2.2 50 (by decide)]; exact e2
    have f1 : M1.1 0 2 = 0 := a5.2.2.2.1
    have preC : ∀ K, M_Rd_oldName hc (d + 7) 39 (nI nd) S1 (fun (r2) (S2) => ((¬ r2 = (-1) → M_Tk_advance hc d S2 (fun (S3) => (vp_in (nI nb) 10 ∧ K 1 (x_putI S3 28 nb r2)))) ∧ (r2 = (-1) → K 0 S2))) → M_Rd_readPromise hc d (nI nb) S K := by
      intro K H
      have B : B_Rd_readPromise_33 hc d (nI nb) S K := by
        refine b_Rd_readPromise_33 (wordC (w := 9) h (by omega) ?_)
        have go : B_Rd_readPromise_58 hc d (nI nb) x (nI nb) S K := by
          refine b_Rd_readPromise_58 ?_
          rw [cb]
          refine ⟨vb, a1 _ ?_⟩
          rw [s1]; exact H
        by_cases c : k = 3 ∧ v = 9
        · rw [if_pos c] at hx ⊢; rw [hx] at go; exact br_f (by decide) go
        · rw [if_neg c] at hx ⊢; rw [hx] at go; exact br_t rfl go
      refine e_Rd_readPromise (wordC (w := 9) h (by omega) ?_)
      by_cases c : k = 3 ∧ v = 9
      · rw [if_pos c]; exact br_nf (by decide) B
      · rw [if_neg c]
        refine br_nt rfl (wordC (w := 10) h (by omega) ?_)
        rw [if_pos (by omega)]; exact br_nf (by decide) B
    have preM : ∀ K, B_M_readButton_164 hm e (nI nb) M1 K → B_M_readButton_108 hm e (nI nb) M K := by
      intro K H
      have B : B_M_readButton_140 hm e (nI nb) M K := by
        refine b_M_readButton_140 (wordM (w := 9) h (by omega) kc9 ?_)
        rw [← hx, hx2, cb]
        exact ⟨vb, br_nt f0 (a2 _ H)⟩
      refine b_M_readButton_108 (br_nt f0 (wordM (w := 9) h (by omega) kc9 ?_))
      by_cases c : k = 3 ∧ v = 9
      · rw [if_pos c]; exact br_nf (by decide) B
      · rw [if_neg c]
        refine br_nt rfl (wordM (w := 10) h (by omega) kc10 ?_)
        rw [if_pos (by omega)]; exact br_nf (by decide) B
    rcases oldJ (hc := hc) (d := d + 7) (hm := hm) (e := e + 2) a5 (c := 39) (from' := 6) (cnt := nd) (nr := 6) rfl hn6 (by omega) (by omega) (b1.nr (by decide) hN) with ⟨i3, hi3, hk1, o1, o2⟩ | ⟨S2, M2, o1, o2, o3⟩
    · have hq2 : QJ t n k1 v1 l1 q1 p1 S1 (x_putI M1 22 nb (nI i3)) := a5.fr rfl rfl rfl rfl rfl (fun _ _ _ => rfl) rfl
      have qp1 := (a5.1.2.2.2.2.2.2 (by omega)).2.2.1
      obtain ⟨S2, M2, k2, v2, l2, q2, p2, c1, c2, c3, c4, c5, c6, c7⟩ := advJ (hc := hc) (d := d) (hm := hm) (e := e + 3) hq2 (by omega)
      have b2 : BP nb [29, 28] [32, 22] S M (x_putI S2 28 nb (nI i3)) M2 := ((b1.tr (BP.m (c := 22) (v := nI i3) (by decide))).tr (BP.tk c3 c4)).tr (BP.s (c := 28))
      have e29 : (x_putI S2 28 nb (nI i3)).1 29 nb = x := by
        show S2.1 29 nb = x
        rw [c3.1 29 (by decide), a3.1 29 (by decide), gI_same, up_s]
      have e32 : M2.1 32 nb = x := by
        rw [c4.1 32 (by decide)]
        show M1.1 32 nb = x
        rw [a4.1 32 (by decide), gI_same, up_s]
      refine Or.inl ⟨i3, x_putI S2 28 nb (nI i3), M2, hi3, fun K H => preC K (o1 _ (br_nf (nM1 (by omega)) (c1 _ ⟨vb, H⟩))), fun K H => preM K (b_M_readButton_164 ?_), b2, ?_, ?_, ?_, ?_, k2, v2, l2, q2, p2, c5.fr rfl rfl rfl rfl rfl (fun _ _ _ => rfl) rfl, by omega, c7⟩
      · rw [m1, cb]
        exact o2 _ ⟨vb, br_nt f1 (c2 _ H)⟩
      · rw [gI_same, up_s]
      · rw [e29]; exact hx1
      · rw [c4.1 22 (by decide), gI_same, up_s]
      · rw [e29, e32]
    · have g1 : FZ M2 (x_putI M2 22 nb 0) := FZ.put (by decide) (by decide)
      obtain ⟨M3, z1, z2⟩ := but_191 (hm := hm) (e := e) hnb (o3.2.2.bad.z g1)
      refine Or.inr ⟨S2, M3, fun K H => preC K (o1 _ (br_nt rfl H)), fun K H => preM K (b_M_readButton_164 ?_), (b1.pc (by decide)).tr o3.1.pc, (b1.pm (by decide)).tr (o3.2.1.pm.tr (g1.tr z1).1), o3.2.2.z (g1.tr z1)⟩
      rw [m1, cb]
      exact o2 _ ⟨vb, br_nf o3.2.2.bad.2 (z2 K H)⟩
  · obtain ⟨S2, M2, w1, w2, w3, w4, w5, -⟩ := refJ h (f := 2) (by omega) (by omega)
    obtain ⟨M3, z1, z2⟩ := but_140 (hm := hm) (e := e) hnb w5.bad
    have n9 : ¬ (k = 3 ∧ v = 9) := fun z => y ⟨z.1, Or.inl z.2⟩
    have n10 : ¬ (k = 3 ∧ v = 10) := fun z => y ⟨z.1, Or.inr z.2⟩
    refine Or.inr ⟨S2, M3, fun K H => e_Rd_readPromise (wordC (w := 9) h (by omega) ?_), fun K H => b_M_readButton_108 (br_nt f0 (wordM (w := 9) h (by omega) kc9 ?_)), w3.pc, w4.pm.tr z1.1, w5.z z1⟩
    · rw [if_neg n9]
      refine br_nt rfl (wordC (w := 10) h (by omega) ?_)
      rw [if_neg n10]
      exact br_nt rfl (w1 _ _ _ ⟨zb0, H⟩)
    · rw [if_neg n9]
      refine br_nt rfl (wordM (w := 10) h (by omega) kc10 ?_)
      rw [if_neg n10]
      exact br_nt rfl (w2 _ _ _ (z2 K H))
end
end
