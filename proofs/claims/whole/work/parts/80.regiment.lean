section
variable {hc hm : xH} {d e : Nat} {S M : xSt}
theorem sim_regiment (hR : Rel S M) : OKi Rel (M_O_regiment hc d S) (M_M_regiment hm e M) := by
  obtain ⟨nm, nd, nb, nf, hd, st, hT, hM, hW, hN, hH, hB, hG, hL, hF, hA⟩ := hR
  obtain ⟨t, n, S1, M1, k, v, l, q, p, hn, a1, a2, a3, a4, a5, a6, a7⟩ := startJ (hc := hc) (hm := hm) (d := d) (e := e) hA
  rcases readJ (hc := hc) (hm := hm) (d := d) (e := e) hn (n - q) 0 k v l q p S1 M1 (Nat.le_refl _) (by omega) a5 a6 ⟨_, _, _, _, _, _, a7⟩ with ⟨S2, M2, b1, b2, b3, b4, b5, nm', nd', nb', nf', hd', st', hD⟩ | ⟨S2, M2, b1, b2, b3, b4, b5⟩
  · -- read
    have pc : FPc S S2 := a3.tr b3
    have pm : FPm (x_putI M 0 1 0) M2 := a4.tr b4
    obtain ⟨f1, f2, f3, f4⟩ := b5
    obtain ⟨⟨t1, t2, t3, t4, t5, t6, t7, t8, t9, t10, t11⟩, ⟨⟨r1, r2, r3, r4, r5, r6⟩, r7, r8, r9, r10⟩, ⟨nw, w1, w2, w3, w4, w5, w6⟩, o, -, sn, dr1, dr2⟩ := hD
    have nm6 := t1.2
    have nd6 := t2.2
    have nb10 := t3.2
    -- the class
    obtain ⟨T, c1, c2, c3, c4, c5⟩ := takeC (S := x_putI (x_putI (x_putI S2 0 1 0) 0 12 (S2.1 19 7)) 0 13 (S2.1 19 8))
    obtain ⟨W, d1, d2, d3, d4, d5, d6⟩ := sewC (S := T)
    have hc' : ∀ K : Int32 → xSt → Prop, K (W.1 2 6) (x_putI (x_putI (x_putI (x_putA (x_putI (x_putI W 43 4 0) 43 5 0) 44 (va_cpy (W.1 42) (W.1 44) 0 (23 * 0) 23)) 43 3 0) 57 6 0) 0 11 0) → M_O_regiment hc d S K := by
      intro K H
      refine e_O_regiment (a1 _ (b1 _ (br_nf (by decide) (c1 _ _ _ (d1 _ _ _ (e_Hi_forgetActs (m_writeRow (dn := 0) rfl (by omega) (e_Hi_emptyBoxes (e_Tg_forgetAll ?_)))))))))
      exact H
    obtain ⟨F, hFd⟩ : ∃ F, F = x_putI (x_putI (x_putI (x_putA (x_putI (x_putI W 43 4 0) 43 5 0) 44 (va_cpy (W.1 42) (W.1 44) 0 (23 * 0) 23)) 43 3 0) 57 6 0) 0 11 0 := ⟨_, rfl⟩
    have F0 : F.1 0 = upd (W.1 0) 11 0 := by rw [hFd]; rfl
    have F43 : F.1 43 = upd (upd (upd (W.1 43) 4 0) 5 0) 3 0 := by rw [hFd]; rfl
    have F44 : F.1 44 = va_cpy (W.1 42) (W.1 44) 0 0 23 := by rw [hFd]; rfl
    have F57 : F.1 57 = upd (W.1 57) 6 0 := by rw [hFd]; rfl
    have Fc : ∀ c, c ≠ 0 → c ≠ 43 → c ≠ 44 → c ≠ 57 → F.1 c = W.1 c := fun c h1 h2 h3 h4 => by
      rw [hFd, gI_ne _ _ _ h1, gI_ne _ _ _ h4, gI_ne _ _ _ h2, gA_n _ _ h3, gI_ne _ _ _ h2, gI_ne _ _ _ h2]
    have Wh : ∀ c, c < 2 ∨ 16 < c → c ≠ 0 → c ≠ 42 → W.1 c = S2.1 c := fun c h1 h2 h3 => by rw [d2 c h3, c2.1 c h1, gI_ne _ _ _ h2, gI_ne _ _ _ h2, gI_ne _ _ _ h2]
    have F2 : ∀ j, j ∈ [19, 18, 17, 14, 6, 4, 0] → F.1 2 j = S2.1 21 j := fun j hj => by rw [Fc 2 (by decide) (by decide) (by decide) (by decide), d2 2 (by decide), c2.2.2 j hj]; rfl
    have zd : ∀ x : Nat × Nat × Nat, x ∈ dnL → x.2.1 ≠ 0 ∧ x.2.1 ≠ 43 ∧ x.2.1 ≠ 44 ∧ x.2.1 ≠ 57 ∧ x.2.1 ≠ 42 ∧ x.1 ≠ 0 := by decide
    have FA : ∀ x : Nat × Nat × Nat, x ∈ dnL → ∀ j, j < x.2.2 → F.1 x.2.1 j = S2.1 x.1 j := fun x hx j hj => by
      obtain ⟨z1, z2, z3, z4, z5, z6⟩ := zd x hx
      rw [Fc _ z1 z2 z3 z4, d2 _ z5, c2.2.1 x hx j hj, gI_ne _ _ _ z6, gI_ne _ _ _ z6, gI_ne _ _ _ z6]
    have A3 : ∀ j, j < 6 → F.1 3 j = S2.1 22 j := FA (22, 3, 6) (by decide)
    have A4 : ∀ j, j < 6 → F.1 4 j = S2.1 23 j := FA (23, 4, 6) (by decide)
    have A5 : ∀ j, j < 6 → F.1 5 j = S2.1 24 j := FA (24, 5, 6) (by decide)
    have A6 : ∀ j, j < 6 → F.1 6 j = S2.1 25 j := FA (25, 6, 6) (by decide)
    have A7 : ∀ j, j < 10 → F.1 7 j = S2.1 26 j := FA (26, 7, 10) (by decide)
    have A8 : ∀ j, j < 10 → F.1 8 j = S2.1 27 j := FA (27, 8, 10) (by decide)
    have A9 : ∀ j, j < 10 → F.1 9 j = S2.1 28 j := FA (28, 9, 10) (by decide)
    have A10 : ∀ j, j < 10 → F.1 10 j = S2.1 29 j := FA (29, 10, 10) (by decide)
    have A11 : ∀ j, j < 10 → F.1 11 j = S2.1 30 j := FA (30, 11, 10) (by decide)
    have A12 : ∀ j, j < 10 → F.1 12 j = S2.1 31 j := FA (31, 12, 10) (by decide)
    have A13 : ∀ j, j < 10 → F.1 13 j = S2.1 32 j := FA (32, 13, 10) (by decide)
    have A14 : ∀ j, j < 36 → F.1 14 j = S2.1 33 j := FA (33, 14, 36) (by decide)
    have F42 : F.1 42 = W.1 42 := Fc 42 (by decide) (by decide) (by decide) (by decide)
    have F15 : F.1 15 = T.1 15 := by rw [Fc 15 (by decide) (by decide) (by decide) (by decide), d2 15 (by decide)]
    have F16 : F.1 16 = T.1 16 := by rw [Fc 16 (by decide) (by decide) (by decide) (by decide), d2 16 (by decide)]
    -- the reference
    have zz : zb (M2.1 0 62) := by
      rw [w4]
      by_cases y : nw = 0
      · rw [if_pos y]; exact zb0
      · rw [if_neg y]; exact zb1
    obtain ⟨R1, e1⟩ : ∃ R1, R1 = x_putI (x_putI (x_putI (x_putI (x_putI (x_putI (x_putI (x_putI (x_putI M2 0 56 (M2.1 0 49)) 0 57 (M2.1 0 50)) 0 58 (M2.1 0 51)) 0 59 (M2.1 0 52)) 0 60 (M2.1 0 53)) 0 61 (M2.1 0 54)) 0 21 (M2.1 0 20)) 0 66 (M2.1 0 62)) 0 18 (nI nw) := ⟨_, rfl⟩
    have pre : ∀ K, B_M_regiment_98 hm e (nI 0) R1 K → M_M_regiment hm e M K := by
      intro K H
      rw [e1] at H
      refine e_M_regiment (a2 _ (b2 _ (br_t (by rw [f3]; decide) ⟨zz, ?_⟩)))
      by_cases y : nw = 0
      · rw [y] at H
        exact br_t (by rw [w4, if_pos y]) (b_M_regiment_93 H)
      · refine br_f (by rw [w4, if_neg y]; decide) ?_
        rw [w3]
        exact b_M_regiment_93 H
    have R1c : ∀ c, c ≠ 0 → R1.1 c = M2.1 c := fun c h => by rw [e1, gI_ne _ _ _ h, gI_ne _ _ _ h, gI_ne _ _ _ h, gI_ne _ _ _ h, gI_ne _ _ _ h, gI_ne _ _ _ h, gI_ne _ _ _ h, gI_ne _ _ _ h, gI_ne _ _ _ h]
    obtain ⟨R2, g1, g2, -, g4⟩ := r98 (hm := hm) (e := e) (n := nw) w1 nw 0 R1 (by omega) (by rw [e1]; rfl)
    obtain ⟨R3, h1, h2, -, h4, -, h6⟩ := r138 (hm := hm) (e := e) 6 0 R2 (by omega)
    obtain ⟨R4, i1, i2, -, i4⟩ := r236 (hm := hm) (e := e) 23 0 R3 (by omega)
    have R40 : R4.1 0 = R1.1 0 := by rw [i2 0 (by decide), h2 0 (by decide), g2 0 (by decide) (by decide)]
    obtain ⟨R5, j1, j2, -, j4, j5, j6⟩ := r257 (hm := hm) (e := e) (nb := nb') nb10 10 0 R4 (by omega) (by
      rw [R40, e1]
      show M2.1 0 51 = _
      rw [r3]; exact t3.1)
    obtain ⟨G, k1, k2, -, k4⟩ := r413 (hm := hm) (e := e) 3 0 (x_putI (x_putI (x_putI (x_putI (x_putI R5 34 21 (R5.1 0 55)) 0 69 0) 0 70 0) 0 93 0) 0 85 0) (by omega)
    have G0 : G.1 0 = upd (upd (upd (upd (R1.1 0) 69 0) 70 0) 93 0) 85 0 := by
      rw [k2 0 (by decide)]
      show upd (upd (upd (upd (R5.1 0) 69 0) 70 0) 93 0) 85 0 = _
      rw [j2 0 (by decide), R40]
    have G6 : ∀ c, c ≠ 0 → c ≠ 34 → c ≠ 50 → G.1 c = R5.1 c := fun c h1 h2 h3 => by rw [k2 c h3, gI_ne _ _ _ h1, gI_ne _ _ _ h1, gI_ne _ _ _ h1, gI_ne _ _ _ h1, gI_ne _ _ _ h2]
    have G34 : G.1 34 = upd (R5.1 34) 21 (R5.1 0 55) := by rw [k2 34 (by decide)]; rfl
    have R4c : ∀ c, c ≠ 0 → c ≠ 5 → c ≠ 6 → c < 15 ∨ 19 < c → c ≠ 34 → R4.1 c = M2.1 c := fun c h1 h3 h5 h7 h8 => by rw [i2 c h8, h2 c h7, g2 c h3 h5, R1c c h1]
    have Gc : ∀ c, c ≠ 0 → c ≠ 5 → c ≠ 6 → c < 15 ∨ 19 < c → c < 26 ∨ c = 32 ∨ 34 < c → c ≠ 50 → G.1 c = M2.1 c := fun c h1 h3 h5 h7 h8 h9 => by rw [G6 c h1 (by omega) h9, j2 c h8, R4c c h1 h3 h5 h7 (by omega)]
    have G15 : ∀ c, 15 ≤ c → c ≤ 19 → G.1 c = R3.1 c := fun c h1 h3 => by rw [G6 c (by omega) (by omega) (by omega), j2 c (by omega), i2 c (by omega)]
    have R2c : ∀ c, c ≠ 0 → c ≠ 5 → c ≠ 6 → R2.1 c = M2.1 c := fun c h1 h3 h5 => by rw [g2 c h3 h5, R1c c h1]
    have kMc : ∀ c, c ∈ kM → M2.1 c = M.1 c := fun c hc => by
      have z1 : ∀ c, c ∈ kM → c ≠ 0 := by decide
      rw [pm.1 c hc, gI_ne _ _ _ (z1 c hc)]
    have ans : G.1 0 58 = W.1 2 6 := by
      rw [G0, e1]
      show M2.1 0 51 = _
      rw [r3, d2 2 (by decide), c2.2.2 6 (by decide)]; rfl
    refine ⟨W.1 2 6, F, G, fun K H => hc' K (by rw [← hFd]; exact H), fun K H => pre K (g1 _ (h1 _ (i1 _ (j1 _ (k1 _ (by rw [ans]; exact H)))))), nm', nd', nb', nf', hd', st', ?_, ?_, ?_, ?_, ?_, ?_, ?_, ?_, ?_, ?_⟩
    · refine ⟨?_, ?_, ?_, ?_, ?_, ?_, fun m hm => ?_, fun x hx => ?_, fun b hb => ?_, fun i j hi hj => ?_, fun i hi => ?_⟩
      · rw [F2 0 (by decide)]; exact t1
      · rw [F2 4 (by decide)]; exact t2
      · rw [F2 6 (by decide)]; exact t3
      · rw [F2 14 (by decide)]; exact t4
      · rw [F2 17 (by decide)]; exact t5
      · rw [F2 18 (by decide)]; exact t6
      · rw [A3 m (by omega), A4 m (by omega), A5 m (by omega)]; exact t7 m hm
      · rw [A6 x (by omega)]; exact t8 x hx
      · rw [A7 b (by omega), A8 b (by omega), A9 b (by omega), A10 b (by omega), A11 b (by omega), A12 b (by omega), A13 b (by omega)]; exact t9 b hb
      · rw [A14 _ (by omega), A14 _ (by omega)]; exact t10 i j hi hj
      · rw [A14 _ (by omega)]; exact t11 i hi
    · refine ⟨⟨?_, ?_, ?_, ?_, ?_, ?_⟩, fun m hm => ?_, fun x hx => ?_, fun b hb => ?_, fun i j hi hj => ?_⟩
      · rw [F2 0 (by decide), ← r1, G0, e1]; rfl
      · rw [F2 4 (by decide), ← r2, G0, e1]; rfl
      · rw [F2 6 (by decide), ← r3, G0, e1]; rfl
      · rw [F2 14 (by decide), ← r4, G0, e1]; rfl
      · rw [F2 17 (by decide), ← r5, G0, e1]; rfl
      · rw [F2 18 (by decide), ← r6, G0, e1]; rfl
      · obtain ⟨y1, y2, y3, y4⟩ := h4 m (by omega) (by omega)
        rw [A3 m (by omega), A4 m (by omega), A5 m (by omega), G15 15 (by decide) (by decide), G15 16 (by decide) (by decide), G15 17 (by decide) (by decide), y1, y2, y3, R2c 10 (by decide) (by decide) (by decide), R2c 11 (by decide) (by decide) (by decide), R2c 12 (by decide) (by decide) (by decide)]
        exact r7 m hm
      · obtain ⟨y1, y2, y3, y4⟩ := h4 x (by omega) (by omega)
        rw [A6 x (by omega), G15 18 (by decide) (by decide), y4, R2c 13 (by decide) (by decide) (by decide)]
        exact r8 x hx
      · obtain ⟨y1, y2, y3, y4, y5, y6, y7⟩ := j4 b (by omega) (by omega)
        obtain ⟨q1, q2, q3, q4, q5, q6, q7⟩ := r9 b hb
        have q29 := (t9 b hb).2.2.2.1
        have nar : vp_nar .boolean (S2.1 29 b) = S2.1 29 b := by
          rcases q29 with z | z <;> (rw [z]; decide)
        rw [A7 b (by omega), A8 b (by omega), A9 b (by omega), A10 b (by omega), A11 b (by omega), A12 b (by omega), A13 b (by omega), G6 26 (by decide) (by decide) (by decide), G6 27 (by decide) (by decide) (by decide), G6 28 (by decide) (by decide) (by decide), G6 33 (by decide) (by decide) (by decide), G6 29 (by decide) (by decide) (by decide), G6 30 (by decide) (by decide) (by decide), G6 31 (by decide) (by decide) (by decide), y1, y2, y3, y4, y5, y6, y7, R4c 20 (by decide) (by decide) (by decide) (by decide) (by decide), R4c 21 (by decide) (by decide) (by decide) (by decide) (by decide), R4c 22 (by decide) (by decide) (by decide) (by decide) (by decide), R4c 32 (by decide) (by decide) (by decide) (by decide) (by decide), R4c 23 (by decide) (by decide) (by decide) (by decide) (by decide), R4c 24 (by decide) (by decide) (by decide) (by decide) (by decide), R4c 25 (by decide) (by decide) (by decide) (by decide) (by decide)]
        exact ⟨q1, q2, q3, by rw [q4]; exact nar, q5, q6, q7⟩
      · rw [A14 _ (by omega), G15 19 (by decide) (by decide), h6 _ (by omega) (by omega), R2c 14 (by decide) (by decide) (by decide)]
        exact r10 i j hi hj
    · refine ⟨nw, w1, ?_, ?_, ?_, ?_, wOk_c w6 (fun k hk => ⟨?_, ?_, ?_⟩)⟩
      · rw [F15, c3]; exact w2
      · rw [G0, e1]; rfl
      · rw [← w4, G0, e1]; rfl
      · rw [F15, c4]
        show _ = S2.1 34 3
        rw [← w5, G0, e1]; rfl
      · rw [F16, c5 k (by omega)]; rfl
      · rw [G6 5 (by decide) (by decide) (by decide), j2 5 (by decide), i2 5 (by decide), h2 5 (by decide), (g4 k (by omega) hk).1, R1c 3 (by decide)]
      · rw [G6 6 (by decide) (by decide) (by decide), j2 6 (by decide), i2 6 (by decide), h2 6 (by decide), (g4 k (by omega) hk).2, R1c 4 (by decide)]
    · rw [F42, G34]
      have T12 : ∀ b, b < 10 → T.1 12 b = S2.1 31 b := fun b hb => by rw [← A12 b hb, Fc 12 (by decide) (by decide) (by decide) (by decide), d2 12 (by decide)]
      refine ⟨fun b hb => ⟨?_, ?_, ?_⟩, ?_, ?_, ?_, ⟨0, by omega, by rw [d4]; rfl⟩, 0, by omega, by rw [d6]; rfl⟩
      · rw [up_n _ _ (by omega), j5 b (by omega), i4 b (by omega) (by omega), (d3 b (by omega)).1]
      · rw [up_n _ _ (by omega), j6 b (by omega) (by omega), if_pos hb, R4c 24 (by decide) (by decide) (by decide) (by decide) (by decide), (d3 b (by omega)).2, T12 b (by omega)]
        exact (r9 b hb).2.2.2.2.2.1
      · rw [(d3 b (by omega)).2, T12 b (by omega)]
        obtain ⟨y, y1, y2, y3⟩ := (t9 b hb).2.2.2.2.2.1
        exact ⟨y, y2, y3⟩
      · rw [up_n _ _ (by decide), j5 20 (by omega), i4 20 (by omega) (by omega), d4]
      · rw [up_s, d5, j2 0 (by decide), R40, c2.2.2 19 (by decide), e1]
        exact dr1
      · rw [up_n _ _ (by decide), j5 22 (by omega), i4 22 (by omega) (by omega), d6]
    · refine ⟨0, 0, by omega, by omega, ?_, ?_, ?_, ?_, fun r hr => absurd hr (by omega), fun r h1 h2 => absurd h2 (by omega), fun k hk => ?_⟩
      · rw [F43]; rfl
      · rw [F43]; rfl
      · rw [G0]; rfl
      · rw [G0]; rfl
      · rw [F44, F42, show 23 * 0 + k = k by omega, cpy_at _ _ hk]
    · refine ⟨0, by omega, ?_, fun x hx => ⟨?_, fun z => absurd z (by simp)⟩⟩
      · rw [F43]; rfl
      · rw [k4 x (by omega) hx]; simp
    · obtain ⟨y1, y2, y3, y4, y5, y6, y7, y8, y9⟩ := hG
      refine ⟨0, y2, by omega, y4, ?_, ?_, ?_, ?_, fun j hj => absurd hj (by omega)⟩
      · rw [F57]; rfl
      · rw [F57]
        show W.1 57 7 = _
        rw [Wh 57 (by omega) (by decide) (by decide), pc 57 (by omega)]; exact y6
      · rw [G0]; rfl
      · rw [G0, e1]
        show M2.1 0 94 = _
        rw [pm.2 94 (by decide)]
        exact y8
    · refine ⟨0, by omega, ?_, ?_, fun j hj => absurd hj (by omega)⟩
      · rw [F0]; rfl
      · rw [G0]; rfl
    · constructor
      · rw [G0, F0, e1]
        show M2.1 0 2 = W.1 0 12
        rw [f3, d2 0 (by decide), c2.1 0 (by decide)]
        exact f1.symm
      · rw [G0, F0, e1]
        show M2.1 0 3 = W.1 0 13
        rw [f4, d2 0 (by decide), c2.1 0 (by decide)]
        exact f2.symm
    · refine ⟨0, by omega, ?_, ?_, fun j hj => absurd hj (by omega)⟩
      · rw [F0]
        show W.1 0 1 = _
        rw [d2 0 (by decide), c2.1 0 (by decide)]; rfl
      · rw [G0, e1]
        show M2.1 0 1 = _
        rw [pm.2 1 (by decide)]; rfl
  · -- a fault
    have pc : FPc S S2 := a3.tr b3
    have pm : FPm (x_putI M 0 1 0) M2 := a4.tr b4
    have fc : ∀ c, c ≠ 0 → c < 18 ∨ 40 < c → (x_putI (x_putI (x_putI S2 0 1 0) 0 12 (S2.1 19 7)) 0 13 (S2.1 19 8)).1 c = S.1 c := fun c h1 h2 => by rw [gI_ne _ _ _ h1, gI_ne _ _ _ h1, gI_ne _ _ _ h1]; exact pc c h2
    have kMc : ∀ c, c ∈ kM → M2.1 c = M.1 c := fun c hc => by
      have z1 : ∀ c, c ∈ kM → c ≠ 0 := by decide
      rw [pm.1 c hc, gI_ne _ _ _ (z1 c hc)]
    have kJc : ∀ j, j ∈ kJ → j ≠ 1 → M2.1 0 j = M.1 0 j := fun j hj h1 => by rw [pm.2 j hj, gI_same, up_n _ _ h1]
    obtain ⟨fk, g1, g2, g3, g4, g5⟩ := b5
    refine ⟨-1, _, M2, fun K H => e_O_regiment (a1 _ (b1 _ (br_nt rfl H))), fun K H => e_M_regiment (a2 _ (b2 _ (br_f (by rw [g4]; exact fun z => by have := (nLe (b := 0) (by omega) (by omega)).mp z; omega) H))), nm, nd, nb, nf, hd, st, ?_, ?_, ?_, ?_, ?_, ?_, ?_, ?_, ⟨?_, ?_⟩, ?_⟩
    · rw [fc 2 (by decide) (by decide), fc 3 (by decide) (by decide), fc 4 (by decide) (by decide), fc 5 (by decide) (by decide), fc 6 (by decide) (by decide), fc 7 (by decide) (by decide), fc 8 (by decide) (by decide), fc 9 (by decide) (by decide), fc 10 (by decide) (by decide), fc 11 (by decide) (by decide), fc 12 (by decide) (by decide), fc 13 (by decide) (by decide), fc 14 (by decide) (by decide)]; exact hT
    · rw [fc 2 (by decide) (by decide), fc 3 (by decide) (by decide), fc 4 (by decide) (by decide), fc 5 (by decide) (by decide), fc 6 (by decide) (by decide), fc 7 (by decide) (by decide), fc 8 (by decide) (by decide), fc 9 (by decide) (by decide), fc 10 (by decide) (by decide), fc 11 (by decide) (by decide), fc 12 (by decide) (by decide), fc 13 (by decide) (by decide), fc 14 (by decide) (by decide), kJc 56 (by decide) (by decide), kJc 57 (by decide) (by decide), kJc 58 (by decide) (by decide), kJc 59 (by decide) (by decide), kJc 60 (by decide) (by decide), kJc 61 (by decide) (by decide), kMc 15 (by decide), kMc 16 (by decide), kMc 17 (by decide), kMc 18 (by decide), kMc 19 (by decide), kMc 26 (by decide), kMc 27 (by decide), kMc 28 (by decide), kMc 29 (by decide), kMc 30 (by decide), kMc 31 (by decide), kMc 33 (by decide)]; exact hM
    · rw [fc 15 (by decide) (by decide), fc 16 (by decide) (by decide), kJc 66 (by decide) (by decide), kJc 18 (by decide) (by decide), kJc 21 (by decide) (by decide), kMc 5 (by decide), kMc 6 (by decide)]; exact hW
    · rw [fc 42 (by decide) (by decide), kMc 34 (by decide)]; exact hN
    · rw [fc 43 (by decide) (by decide), fc 42 (by decide) (by decide), fc 44 (by decide) (by decide), kJc 69 (by decide) (by decide), kJc 70 (by decide) (by decide), kMc 35 (by decide)]; exact hH
    · rw [fc 43 (by decide) (by decide), fc 45 (by decide) (by decide), kMc 50 (by decide), kMc 51 (by decide)]; exact hB
    · rw [fc 57 (by decide) (by decide), fc 58 (by decide) (by decide), fc 59 (by decide) (by decide), fc 60 (by decide) (by decide), fc 61 (by decide) (by decide), fc 62 (by decide) (by decide), kJc 93 (by decide) (by decide), kJc 94 (by decide) (by decide), kMc 45 (by decide), kMc 46 (by decide), kMc 47 (by decide), kMc 48 (by decide), kMc 49 (by decide)]; exact hG
    · rw [fc 63 (by decide) (by decide), kJc 85 (by decide) (by decide), kMc 42 (by decide)]
      show RLi (S2.1 0 11) _ _ _
      rw [pc 0 (by decide)]; exact hL
    · rw [g4]; exact g3.symm
    · exact g5
    · refine ⟨0, by omega, rfl, ?_, fun j hj => absurd hj (by omega)⟩
      rw [pm.2 1 (by decide)]; rfl
end
