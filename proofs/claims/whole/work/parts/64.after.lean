section
variable {hc hm : xH} {d e : Nat} {S M : xSt}
section
variable {t : Nat → Nat} {n k v q p nm nd nb : Nat} {l : List Nat}
theorem NRel.lt {c from' cnt cnt' : Nat} (h : NRel c from' cnt S M) (hl : cnt' ≤ cnt) : NRel c from' cnt' S M := by
  obtain ⟨nm, a, b⟩ := h
  exact ⟨nm, fun i hi => a i (by omega), fun i j hi hj => b i j (by omega) (by omega)⟩
abbrev RB2 (hm : xH) (e : Nat) (x : Int32) (M : xSt) (K : xSt → Prop) : Prop := M_M_isWord hm (e + 4) 418330731890 M (fun (r3) (S3) => ((r3 = 0 → B_M_readButton_282 hm e S3 K) ∧ (¬ r3 = 0 → M_M_token hm (e + 3) S3 (fun (S4) => M_M_oldName hm (e + 2) 12 (S4.1 0 51) S4 (fun (r5) (S5) => (vp_in x 10 ∧ ((¬ (S5.1 0 2) = 0 → B_M_readButton_282 hm e (x_putI S5 25 (x).toNatClampNeg r5) K) ∧ ((S5.1 0 2) = 0 → M_M_token hm (e + 3) (x_putI S5 25 (x).toNatClampNeg r5) (fun (S6) => B_M_readButton_282 hm e S6 K)))))))))
theorem afterJ (h : QJ t n k v l q p S M) (hk : k ≤ 5) (hnb : nb < 10) (e1 : S.1 21 6 = nI nb) (e2 : M.1 0 51 = nI nb) (hN : NRel 40 12 nb S M) (h25 : M.1 25 nb = -1) : (∃ S' M', (∀ K, K 1 S' → M_Rd_readAfter hc d (nI nb) S K) ∧ (∀ K, B_M_readButton_282 hm e M' K → RB2 hm e (nI nb) M K) ∧ BP nb [32] [25] S M S' M' ∧ (S'.1 32 nb = -1 ∨ ∃ k, k < nb ∧ S'.1 32 nb = nI k) ∧ M'.1 25 nb = S'.1 32 nb ∧ ∃ k' v' l' q' p', QJ t n k' v' l' q' p' S' M' ∧ q ≤ q' ∧ k' ≤ 5) ∨ (∃ S' M', (∀ K, K 0 S' → M_Rd_readAfter hc d (nI nb) S K) ∧ (∀ K, K M' → RB2 hm e (nI nb) M K) ∧ FPc S S' ∧ FPm M M' ∧ FJ S' M') := by
  have vb : vp_in (nI nb) 10 := vIn (by omega) (by omega)
  have cb : (nI nb).toNatClampNeg = nb := nCl (by omega)
  have hq0 : QJ t n k v l q p (x_putI S 32 nb (-1)) M := h.fr rfl rfl rfl rfl rfl (fun _ _ _ => rfl) rfl
  unfold RB2
  rw [cb]
  by_cases y : k = 3 ∧ v = 13
  · have qp := (h.1.2.2.2.2.2.2 (by omega)).2.2.1
    obtain ⟨S1, M1, k1, v1, l1, q1, p1, a1, a2, a3, a4, a5, a6, a7⟩ := advJ (hc := hc) (d := d) (hm := hm) (e := e + 3) hq0 (by omega)
    have b1 : BP nb [32] [] S M S1 M1 := (BP.s (c := 32) (v := -1)).tr (BP.tk a3 a4)
    have s1 : S1.1 21 6 = nI nb := by rw [b1.1 21 (by decide) (by decide)]; exact e1
    have m1 : M1.1 0 51 = nI nb := by rw [b1.2.2.2.2.2.2 51 (by decide)]; exact e2
    have f1 : M1.1 0 2 = 0 := a5.2.2.2.1
    have preC : ∀ K, M_Rd_oldName hc (d + 7) 40 (nI nb) S1 (fun (r3) (S3) => (vp_in (nI nb) 10 ∧ (vp_in (nI nb) 10 ∧ ((¬ r3 = (-1) → M_Tk_advance hc d (x_putI S3 32 nb r3) (fun (S4) => K 1 S4)) ∧ (r3 = (-1) → K 0 (x_putI S3 32 nb r3)))))) → M_Rd_readAfter hc d (nI nb) S K := by
      intro K H
      refine e_Rd_readAfter ⟨vb, ?_⟩
      rw [cb]
      refine wordC (w := 13) hq0 (by omega) ?_
      rw [if_pos y]
      refine br_nf (by decide) (a1 _ ?_)
      rw [s1]; exact H
    rcases oldJ (hc := hc) (d := d + 7) (hm := hm) (e := e + 2) a5 (c := 40) (from' := 12) (cnt := nb) (nr := 10) rfl (by omega) (by omega) (by omega) (b1.nr (by decide) hN) with ⟨i4, hi4, hk1, o1, o2⟩ | ⟨S2, M2, o1, o2, o3⟩
    · have hq2 : QJ t n k1 v1 l1 q1 p1 (x_putI S1 32 nb (nI i4)) (x_putI M1 25 nb (nI i4)) := a5.fr rfl rfl rfl rfl rfl (fun _ _ _ => rfl) rfl
      have qp1 := (a5.1.2.2.2.2.2.2 (by omega)).2.2.1
      obtain ⟨S2, M2, k2, v2, l2, q2, p2, c1, c2, c3, c4, c5, c6, c7⟩ := advJ (hc := hc) (d := d) (hm := hm) (e := e + 3) hq2 (by omega)
      have b2 : BP nb [32, 32] [25] S M S2 M2 := ((b1.tr (BP.s (c := 32) (v := nI i4))).tr (BP.m (c := 25) (v := nI i4) (by decide))).tr (BP.tk c3 c4)
      have b3 : BP nb [32] [25] S M S2 M2 := ⟨fun c h1 h2 => b2.1 c h1 (fun z => h2 (by simpa using z)), b2.2⟩
      have e32 : S2.1 32 nb = nI i4 := by rw [c3.1 32 (by decide), gI_same, up_s]
      refine Or.inl ⟨S2, M2, fun K H => preC K (o1 _ ⟨vb, vb, br_nf (nM1 (by omega)) (c1 _ H)⟩), fun K H => wordM (w := 13) hq0 (by omega) kc13 ?_, b3, Or.inr ⟨i4, hi4, e32⟩, ?_, k2, v2, l2, q2, p2, c5, by omega, c7⟩
      · rw [if_pos y]
        refine br_f (by decide) (a2 _ ?_)
        rw [m1]
        exact o2 _ ⟨vb, br_nt f1 (c2 _ H)⟩
      · rw [e32, c4.1 25 (by decide), gI_same, up_s]
    · have g1 : FZ M2 (x_putI M2 25 nb 0) := FZ.put (by decide) (by decide)
      refine Or.inr ⟨x_putI S2 32 nb (-1), x_putI M2 25 nb 0, fun K H => preC K (o1 _ ⟨vb, vb, br_nt rfl H⟩), fun K H => wordM (w := 13) hq0 (by omega) kc13 ?_, (b1.pc (by decide)).tr (o3.1.pc.tr (FPc.put (by omega))), (b1.pm (by decide)).tr (o3.2.1.pm.tr g1.1), (o3.2.2.z g1).s rfl⟩
      rw [if_pos y]
      refine br_f (by decide) (a2 _ ?_)
      rw [m1]
      exact o2 _ ⟨vb, br_nf o3.2.2.bad.2 (but_282 (o3.2.2.bad.z g1) H)⟩
  · refine Or.inl ⟨x_putI S 32 nb (-1), M, fun K H => e_Rd_readAfter ⟨vb, ?_⟩, fun K H => wordM (w := 13) hq0 (by omega) kc13 ?_, ?_, Or.inl ?_, ?_, k, v, l, q, p, hq0, Nat.le_refl _, hk⟩
    · rw [cb]
      refine wordC (w := 13) hq0 (by omega) ?_
      rw [if_neg y]
      exact br_nt rfl H
    · rw [if_neg y]; exact br_t rfl H
    · have b : BP nb [32] [] S M (x_putI S 32 nb (-1)) M := BP.s (c := 32)
      exact ⟨b.1, b.2.1, b.2.2.1, fun c _ _ => rfl, b.2.2.2.2⟩
    · rw [gI_same, up_s]
    · rw [gI_same, up_s]; exact h25
end
end
