section
variable {hc hm : xH} {d e : Nat} {S M : xSt}
section
variable {t : Nat → Nat} {n k v q p nm nd nb nf hd st : Nat} {l : List Nat}
theorem lineMan (h : QJ t n k v l q p S M) (hk : 2 ≤ k) (hD : DR nm nd nb nf hd st S M) (h6 : nm < 6) : LJ t n p (M_Rd_readMan hc d S) (M_M_readMan hm e M) S M := by
  have em : S.1 21 0 = nI nm := hD.1.1.1
  have emM : M.1 0 49 = nI nm := by rw [hD.2.1.1.1]; exact em
  have c6 : (nI nm).toNatClampNeg = nm := nCl (by omega)
  have v6 : vp_in (nI nm) 6 := vIn (by omega) (by omega)
  obtain ⟨S1, a1, a2, a3⟩ := newJ (hc := hc) (hm := hm) (e := e + 2) h hk (c := 38) (from' := 0) (cnt := nm) (nr := 6) rfl (by decide) h6 (by omega) (by omega) hD.2.2.2.2.1.1 (d1 := d + 1) (d2 := d + 9) (d3 := d + 2)
  rcases a3 with ⟨S2, M2, b1, b2, b3, b4, b5, b6, b7, b8, b9, k2, v2, l2, q2, p2, b10, b11, b12⟩ | ⟨S2, M2, b1, b2, b3⟩
  · have e2 : M2.1 0 49 = nI nm := by rw [b8 49 (by decide)]; exact emM
    have preC : ∀ K, M_Rd_optional hc d 1 0 9 0 S2 (fun (r4) (S4) => (vp_in (nI nm) 6 ∧ (vp_in (nI nm) 6 ∧ ((¬ r4 = (-1) → M_Rd_optional hc d 2 1 4 2 (x_putI S4 22 nm r4) (fun (r5) (S5) => (vp_in (nI nm) 6 ∧ (vp_in (nI nm) 6 ∧ ((¬ r5 = (-1) → (vp_in (nI nm) 6 ∧ M_Tk_isWord hc (d + 11) 3 (x_putI (x_putI S5 23 nm r5) 24 nm 0) (fun (r6) (S6) => ((r6 = 0 → B_Rd_readMan_155 hc d S6 K) ∧ (¬ r6 = 0 → (vp_in (nI nm) 6 ∧ M_Tk_advance hc (d + 2) (x_putI S6 24 nm 1) (fun (S7) => B_Rd_readMan_155 hc d S7 K))))))) ∧ (r5 = (-1) → K 0 (x_putI S5 23 nm r5))))))) ∧ (r4 = (-1) → K 0 (x_putI S4 22 nm r4)))))) → M_Rd_readMan hc d S K := by
      intro K H
      refine e_Rd_readMan ?_
      rw [em, c6]
      refine e_Rd_opens (br_t ((nLt (b := 6) (by omega) (by omega)).mpr h6) (a1 _ (br_f (by decide) (b1 _ (br_nf (by decide) ⟨v6, b2 _ H⟩)))))
    have preM : ∀ K, M_M_option hm e 109330211763570 0 9 0 M2 (fun (r2) (S2) => (vp_in (nI nm) 6 ∧ M_M_option hm e 448545973619 1 4 2 (x_putI S2 10 nm r2) (fun (r3) (S3) => (vp_in (nI nm) 6 ∧ ((¬ (S3.1 0 2) = 0 → B_M_readMan_73 hm e (nI nm) (nI nm) (x_putI S3 11 nm r3) K) ∧ ((S3.1 0 2) = 0 → M_M_isWord hm (e + 4) 1818584692 (x_putI S3 11 nm r3) (fun (r4) (S4) => ((r4 = 0 → B_M_readMan_73 hm e (nI nm) (nI nm) S4 K) ∧ (¬ r4 = 0 → B_M_readMan_74 hm e (nI nm) 1 (nI nm) S4 K))))))))) → M_M_readMan hm e M K := by
      intro K H
      refine e_M_readMan ?_
      rw [emM]
      refine b3 _ ?_
      rw [e2, c6]
      exact H
    have pcS2 : FPc S S2 := fun c hc => b5 c (by omega)
    have z1 : ∀ c, c ∈ kM → c ≠ 0 := by decide
    have z2 : ∀ j, j ∈ kJ → j < 2 ∨ 8 < j := by decide
    have pmM2 : FPm M M2 := ⟨fun c hc => b7 c (z1 c hc), fun j hj => b8 j (z2 j hj)⟩
    rcases optJ (hc := hc) (d := d) (hm := hm) (e := e) b10 b12 (w := 1) (by omega) kc1 (a := 0) (b := 9) (o := 0) (by omega) (by omega) with ⟨r, hr, S3, M3, g1, g2, g3, g4, k3, v3, l3, q3, p3, g5, g6, g7⟩ | ⟨S3, M3, r, g1, g2, g3⟩
    · have hr9 : r ≤ 9 := by omega
      have hq3 : QJ t n k3 v3 l3 q3 p3 (x_putI S3 22 nm (nI r)) (x_putI M3 10 nm (nI r)) := g5.fr rfl rfl rfl rfl rfl (fun _ _ _ => rfl) rfl
      rcases optJ (hc := hc) (d := d) (hm := hm) (e := e) hq3 g7 (w := 2) (by omega) kc2 (a := 1) (b := 4) (o := 2) (by omega) (by omega) with ⟨r', hr', S4, M4, u1, u2, u3, u4, k4, v4, l4, q4, p4, u5, u6, u7⟩ | ⟨S4, M4, r', u1, u2, u3⟩
      · have hr4 : 1 ≤ r' ∧ r' ≤ 4 := by omega
        have f4 : M4.1 0 2 = 0 := u5.2.2.2.1
        have hq4 : QJ t n k4 v4 l4 q4 p4 (x_putI (x_putI S4 23 nm (nI r')) 24 nm 0) (x_putI M4 11 nm (nI r')) := u5.fr rfl rfl rfl rfl rfl (fun _ _ _ => rfl) rfl
        -- what stands at the end
        have fin : ∀ (c : Nat) (S5 M5 : xSt), c ≤ 1 → (∀ c', c' ≠ 19 → c' ≠ 24 → S5.1 c' = (x_putI S4 23 nm (nI r')).1 c') → (∀ i, S5.1 24 i = if i = nm then nI c else S4.1 24 i) → (∀ c', c' ≠ 19 → S5.2.1 c' = S4.2.1 c') → (∀ c', c' ≠ 0 → c' ≠ 12 → M5.1 c' = (x_putI M4 11 nm (nI r')).1 c') → M5.1 12 = upd (M4.1 12) nm (nI c) → (∀ j, j < 2 ∨ 8 < j → M5.1 0 j = M4.1 0 j) → (∀ c', c' ≠ 0 → M5.2.1 c' = M4.2.1 c') → M5.1 0 2 = 0 → (∃ k v l q p', QJ t n k v l q p' S5 M5 ∧ p ≤ q ∧ k ≤ 5) → ∃ M6, (∀ K, K M6 → B_M_readMan_99 hm e (nI nm) M5 K) ∧ FPc S (x_putI S5 21 0 (S5.1 21 0 + 1)) ∧ FPm M M6 ∧ (∃ k v l q p', QJ t n k v l q p' (x_putI S5 21 0 (S5.1 21 0 + 1)) M6 ∧ p ≤ q ∧ k ≤ 5) ∧ ∃ nm nd nb nf hd st, DR nm nd nb nf hd st (x_putI S5 21 0 (S5.1 21 0 + 1)) M6 := by
          intro c S5 M5 hc1 y1 y2 y3 y4 y5 y6 y7 y8 y9
          obtain ⟨M6, w1, w2, w3, w4⟩ := r_man101 (hm := hm) (e := e) (M := M5) h6
          have w50 : M6.1 0 = M5.1 0 := w2 0 (by decide)
          have m49 : M5.1 0 49 = nI nm := by
            rw [y6 49 (by decide), u4.2.2 49 (by decide)]
            show M3.1 0 49 = _
            rw [g4.2.2 49 (by decide)]; exact e2
          have s21 : S5.1 21 = S.1 21 := by
            rw [y1 21 (by decide) (by decide)]
            show S4.1 21 = _
            rw [u3.1 21 (by decide)]
            show S3.1 21 = _
            rw [g3.1 21 (by decide)]; exact b5 21 (by decide)
          have e6 : x_putI M6 0 49 (M6.1 0 49 + 1) = x_putI M6 0 49 (nI (nm + 1)) := by rw [w50, m49, nI_1]
          have es : x_putI S5 21 0 (S5.1 21 0 + 1) = x_putI S5 21 0 (nI (nm + 1)) := by rw [s21, em, nI_1]
          have sc : ∀ c', c' ≠ 19 → c' ≠ 21 → c' ≠ 22 → c' ≠ 23 → c' ≠ 24 → S5.1 c' = S.1 c' := fun c' h1 h2 h3 h4 h5 => by
            rw [y1 c' h1 h5, gI_ne _ _ _ h4, u3.1 c' h1, gI_ne _ _ _ h3, g3.1 c' h1]; exact b5 c' h1
          have mc : ∀ c', c' ≠ 0 → c' ≠ 10 → c' ≠ 11 → c' ≠ 12 → c' ≠ 14 → M6.1 c' = M.1 c' := fun c' h1 h2 h3 h4 h5 => by
            rw [w2 c' h5, y4 c' h1 h4, gI_ne _ _ _ h3, u4.1 c' h1, gI_ne _ _ _ h2, g4.1 c' h1]; exact b7 c' h1
          have mj : ∀ j, j < 2 ∨ 8 < j → M6.1 0 j = M.1 0 j := fun j hj => by
            rw [w50, y6 j hj, u4.2.2 j hj]
            show M3.1 0 j = _
            rw [g4.2.2 j hj]; exact b8 j hj
          refine ⟨x_putI M6 0 49 (nI (nm + 1)), fun K H => w1 K (br_nt (by rw [w50]; exact y8) (by rw [e6]; exact H)), ?_, ⟨fun c' h' => ?_, fun j hj => ?_⟩, ?_, ?_⟩
          · rw [es]
            exact fun c' h' => by rw [gI_ne _ _ _ (by omega)]; exact sc c' (by omega) (by omega) (by omega) (by omega) (by omega)
          · have z3 : ∀ c, c ∈ kM → c ≠ 0 ∧ c ≠ 10 ∧ c ≠ 11 ∧ c ≠ 12 ∧ c ≠ 14 := by decide
            obtain ⟨z3, z4, z5, z6, z7⟩ := z3 c' h'
            rw [gI_ne _ _ _ z3]; exact mc c' z3 z4 z5 z6 z7
          · have z3 : ∀ j, j ∈ kJ → j ≠ 49 := by decide
            rw [gI_same, up_n _ _ (z3 j hj)]; exact mj j (z2 j hj)
          · obtain ⟨k, v, l, q, p', x1, x2, x3⟩ := y9
            rw [es]
            exact ⟨k, v, l, q, p', x1.fr rfl rfl rfl rfl (w2 1 (by decide)) (fun j h1 h2 => by rw [gI_same, up_n _ _ (by omega), w50]) (by show M6.2.1 0 = _; rw [w3]), x2, x3⟩
          · rw [es]
            have ls : ∀ c', c' ≠ 19 → S5.2.1 c' = S2.2.1 c' := fun c' h' => by
              rw [y3 c' h', u3.2.1 c' h']
              show S3.2.1 c' = _
              rw [g3.2.1 c' h']
            have lm : M6.2.1 2 = M2.2.1 2 := by
              rw [w3, y7 2 (by decide), u4.2.1 2 (by decide)]
              show M3.2.1 2 = _
              rw [g4.2.1 2 (by decide)]
            refine ⟨nm + 1, nd, nb, nf, hd, st, DR_man hD h6 hr9 hr4 hc1 (fun c' h1 h2 h3 h4 h5 => by rw [gI_ne _ _ _ h2]; exact sc c' h1 h2 h3 h4 h5) (fun j hj => by rw [gI_same, up_n _ _ hj, s21]) (by rw [gI_same, up_s]) ?_ ?_ (fun i => ?_) (fun c' h1 h2 h3 h4 h5 => by rw [gI_ne _ _ _ h1]; exact mc c' h1 h2 h3 h4 h5) (fun j hj h9 => by rw [gI_same, up_n _ _ h9]; exact mj j hj) (by rw [gI_same, up_s]) ?_ ?_ ?_ (fun i j hi hj => ?_) ?_ ?_ ?_⟩
            · show S5.1 22 = _
              rw [y1 22 (by decide) (by decide)]
              show S4.1 22 = _
              rw [u3.1 22 (by decide), gI_same, g3.1 22 (by decide), b5 22 (by decide)]
            · show S5.1 23 = _
              rw [y1 23 (by decide) (by decide), gI_same, u3.1 23 (by decide)]
              show upd (S3.1 23) nm _ = _
              rw [g3.1 23 (by decide), b5 23 (by decide)]
            · show S5.1 24 i = _
              rw [y2 i, u3.1 24 (by decide)]
              show (if i = nm then _ else S3.1 24 i) = _
              rw [g3.1 24 (by decide), b5 24 (by decide)]
            · show M6.1 10 = _
              rw [w2 10 (by decide), y4 10 (by decide) (by decide)]
              show M4.1 10 = _
              rw [u4.1 10 (by decide), gI_same, g4.1 10 (by decide), b7 10 (by decide)]
            · show M6.1 11 = _
              rw [w2 11 (by decide), y4 11 (by decide) (by decide), gI_same, u4.1 11 (by decide)]
              show upd (M3.1 11) nm _ = _
              rw [g4.1 11 (by decide), b7 11 (by decide)]
            · show M6.1 12 = _
              rw [w2 12 (by decide), y5, u4.1 12 (by decide)]
              show upd (M3.1 12) nm _ = _
              rw [g4.1 12 (by decide), b7 12 (by decide)]
            · show M6.1 14 (6 * i + j) = _
              rw [w4 i j hi hj, y4 14 (by decide) (by decide)]
              show (if i = nm ∨ j = nm then _ else M4.1 14 (6 * i + j)) = _
              rw [u4.1 14 (by decide)]
              show (if i = nm ∨ j = nm then _ else M3.1 14 (6 * i + j)) = _
              rw [g4.1 14 (by decide), b7 14 (by decide)]
            · exact b4.fr (fun i _ => by show S5.2.1 38 i = _; rw [ls 38 (by decide)]) (fun i _ => by show M6.2.1 2 _ = _; rw [lm])
            · exact hD.2.2.2.2.1.2.1.fr (fun i _ => by show S5.2.1 39 i = _; rw [ls 39 (by decide), b6 39 (by decide) (by decide)]) (fun i hi => by show M6.2.1 2 _ = _; rw [lm, b9 _ (by omega)])
            · have nb10 := hD.1.2.2.1.2
              exact hD.2.2.2.2.1.2.2.fr (fun i _ => by show S5.2.1 40 i = _; rw [ls 40 (by decide), b6 40 (by decide) (by decide)]) (fun i hi => by show M6.2.1 2 _ = _; rw [lm, b9 _ (by omega)])
        have hk4 : p ≤ q4 := by omega
        by_cases y : k4 = 3 ∧ v4 = 3
        · have hq5 : QJ t n k4 v4 l4 q4 p4 (x_putI (x_putI (x_putI S4 23 nm (nI r')) 24 nm 0) 24 nm 1) (x_putI (x_putI M4 11 nm (nI r')) 12 nm 1) := hq4.fr rfl rfl rfl rfl rfl (fun _ _ _ => rfl) rfl
          obtain ⟨S5, M5, k5, v5, l5, q5, p5, x1, x2, x3, x4, x5, x6, x7⟩ := advJ (hc := hc) (d := d + 2) (hm := hm) (e := e + 3) hq5 (by omega)
          have qp := (hq4.1.2.2.2.2.2.2 (by omega)).2.2.1
          obtain ⟨M6, f1, f2, f3, f4', f5⟩ := fin 1 S5 M5 (by omega) (fun c' h1 h2 => by rw [x3.1 c' h1, gI_ne _ _ _ h2, gI_ne _ _ _ h2]) (fun i => by
            rw [x3.1 24 (by decide), gI_same, gI_same]
            by_cases z : i = nm
            · rw [z, up_s, if_pos rfl]; rfl
            · rw [up_n _ _ z, up_n _ _ z, if_neg z]; rfl) (fun c' h' => by rw [x3.2.1 c' h']; rfl) (fun c' h1 h2 => by rw [x4.1 c' h1, gI_ne _ _ _ h2]) (by rw [x4.1 12 (by decide), gI_same]; rfl) (fun j hj => by rw [x4.2.2 j hj]; rfl) (fun c' h' => by rw [x4.2.1 c' h']; rfl) x5.2.2.2.1 ⟨k5, v5, l5, q5, p5, x5, by omega, x7⟩
          refine Or.inl ⟨_, M6, fun K H => preC K (g1 _ ⟨v6, v6, br_nf (nM1 (by omega)) (u1 _ ⟨v6, v6, br_nf (nM1 (by omega)) ⟨v6, ?_⟩⟩)⟩), fun K H => preM K (g2 _ ⟨v6, u2 _ ⟨v6, br_nt f4 ?_⟩⟩), f2, f3, f4', f5⟩
          · refine wordC (w := 3) hq4 (by omega) ?_
            rw [if_pos y]
            exact br_f (by decide) ⟨v6, x1 _ (b_Rd_readMan_155 H)⟩
          · refine wordM (w := 3) hq4 (by omega) kc3 ?_
            rw [if_pos y]
            refine br_f (by decide) (b_M_readMan_74 (truth1 ⟨v6, br_nt f4 ?_⟩))
            rw [c6]
            refine wordM (w := 3) hq5 (by omega) kc3 ?_
            rw [if_pos y]
            exact br_f (by decide) (x2 _ (f1 _ H))
        · have hq5 : QJ t n k4 v4 l4 q4 p4 (x_putI (x_putI S4 23 nm (nI r')) 24 nm 0) (x_putI (x_putI M4 11 nm (nI r')) 12 nm 0) := hq4.fr rfl rfl rfl rfl rfl (fun _ _ _ => rfl) rfl
          obtain ⟨M6, f1, f2, f3, f4', f5⟩ := fin 0 (x_putI (x_putI S4 23 nm (nI r')) 24 nm 0) (x_putI (x_putI M4 11 nm (nI r')) 12 nm 0) (by omega) (fun c' h1 h2 => by rw [gI_ne _ _ _ h2]) (fun i => by
            rw [gI_same]
            by_cases z : i = nm
            · rw [z, up_s, if_pos rfl]; rfl
            · rw [up_n _ _ z, if_neg z]; rfl) (fun c' h' => rfl) (fun c' h1 h2 => by rw [gI_ne _ _ _ h2]) (by rw [gI_same]; rfl) (fun j hj => rfl) (fun c' h' => rfl) f4 ⟨k4, v4, l4, q4, p4, hq5, hk4, u7⟩
          refine Or.inl ⟨_, M6, fun K H => preC K (g1 _ ⟨v6, v6, br_nf (nM1 (by omega)) (u1 _ ⟨v6, v6, br_nf (nM1 (by omega)) ⟨v6, ?_⟩⟩)⟩), fun K H => preM K (g2 _ ⟨v6, u2 _ ⟨v6, br_nt f4 ?_⟩⟩), f2, f3, f4', f5⟩
          · refine wordC (w := 3) hq4 (by omega) ?_
            rw [if_neg y]
            exact br_t rfl (b_Rd_readMan_155 H)
          · refine wordM (w := 3) hq4 (by omega) kc3 ?_
            rw [if_neg y]
            refine br_t rfl (b_M_readMan_73 (b_M_readMan_74 (truth0 ⟨v6, br_nt f4 ?_⟩)))
            rw [c6]
            refine wordM (w := 3) hq5 (by omega) kc3 ?_
            rw [if_neg y]
            exact br_t rfl (f1 _ H)
      · have f1 : FZ M4 (x_putI M4 11 nm r') := FZ.put (by decide) (by decide)
        obtain ⟨M5, w1, w2⟩ := man_t3 (hm := hm) (e := e) (M := x_putI M4 11 nm r') h6 (u3.2.2.bad.z f1)
        refine Or.inr ⟨x_putI S4 23 nm (-1), M5, fun K H => preC K (g1 _ ⟨v6, v6, br_nf (nM1 (by omega)) (u1 _ ⟨v6, v6, br_nt rfl H⟩)⟩), fun K H => preM K (g2 _ ⟨v6, u2 _ ⟨v6, br_nf u3.2.2.bad.2 (w2 K H)⟩⟩), ?_, ?_, ?_⟩
        · exact pcS2.tr (g3.pc.tr ((FPc.put (by omega)).tr (u3.1.pc.tr (FPc.put (by omega)))))
        · exact pmM2.tr (g4.pm.tr ((FZ.put (M := M3) (c := 10) (j := nm) (v := nI r) (by decide) (by decide)).1.tr (u3.2.1.pm.tr (f1.tr w1).1)))
        · exact (u3.2.2.z (f1.tr w1)).s rfl
    · obtain ⟨M4, w1, w2⟩ := man_t2 (hm := hm) (e := e) (M := M3) (r := r) h6 g3.2.2.bad
      refine Or.inr ⟨x_putI S3 22 nm (-1), M4, fun K H => preC K (g1 _ ⟨v6, v6, br_nt rfl H⟩), fun K H => preM K (g2 _ ⟨v6, ?_⟩), ?_, ?_, ?_⟩
      · have := w2 K H
        rw [c6] at this
        exact this
      · exact pcS2.tr (g3.1.pc.tr (FPc.put (by omega)))
      · exact pmM2.tr (g3.2.1.pm.tr w1.1)
      · exact (g3.2.2.z w1).s rfl
  · have e2 : M2.1 0 49 = nI nm := by rw [b3.2.1.2.2 49 (by decide)]; exact emM
    obtain ⟨M3, w1, w2⟩ := man_t2 (hm := hm) (e := e) (M := M2) (r := 0) h6 b3.2.2.bad
    refine Or.inr ⟨S2, M3, fun K H => e_Rd_readMan ?_, fun K H => e_M_readMan ?_, b3.1.pc, b3.2.1.pm.tr w1.1, b3.2.2.z w1⟩
    · rw [em]
      exact e_Rd_opens (br_t ((nLt (b := 6) (by omega) (by omega)).mpr h6) (a1 _ (br_f (by decide) (b1 _ (br_nt rfl H)))))
    · rw [emM]
      refine b2 _ ?_
      rw [e2, c6]
      refine opt_f b3.2.2.bad ⟨v6, ?_⟩
      have := w2 K H
      rw [c6] at this
      exact this
end
end
