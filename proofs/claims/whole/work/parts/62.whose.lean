section
variable {hc hm : xH} {d e : Nat} {S M : xSt}
section
variable {t : Nat → Nat} {n k v q p nm nd nb : Nat} {l : List Nat}
/-- what is laid at one place of rows cs, ms -/
def BP (x : Nat) (cs ms : List Nat) (S M S' M' : xSt) : Prop := (∀ c, c ≠ 19 → c ∉ cs → S'.1 c = S.1 c) ∧ (∀ c, c ≠ 19 → ∀ i, i ≠ x → S'.1 c i = S.1 c i) ∧ (∀ c, c ≠ 19 → S'.2.1 c = S.2.1 c) ∧ (∀ c, c ≠ 0 → c ∉ ms → M'.1 c = M.1 c) ∧ (∀ c, c ≠ 0 → ∀ i, i ≠ x → M'.1 c i = M.1 c i) ∧ (∀ c, c ≠ 0 → M'.2.1 c = M.2.1 c) ∧ ∀ j, j < 2 ∨ 8 < j → M'.1 0 j = M.1 0 j
theorem BP.tr {x : Nat} {cs ms cs' ms' : List Nat} {S1 M1 S2 M2 : xSt} (h : BP x cs ms S M S1 M1) (g : BP x cs' ms' S1 M1 S2 M2) : BP x (cs ++ cs') (ms ++ ms') S M S2 M2 := by
  obtain ⟨a1, a2, a3, a4, a5, a6, a7⟩ := h
  obtain ⟨b1, b2, b3, b4, b5, b6, b7⟩ := g
  refine ⟨fun c h1 h2 => ?_, fun c h1 i h2 => (b2 c h1 i h2).trans (a2 c h1 i h2), fun c h1 => (b3 c h1).trans (a3 c h1), fun c h1 h2 => ?_, fun c h1 i h2 => (b5 c h1 i h2).trans (a5 c h1 i h2), fun c h1 => (b6 c h1).trans (a6 c h1), fun j hj => (b7 j hj).trans (a7 j hj)⟩
  · rw [List.mem_append] at h2
    exact (b1 c h1 (fun z => h2 (Or.inr z))).trans (a1 c h1 (fun z => h2 (Or.inl z)))
  · rw [List.mem_append] at h2
    exact (b4 c h1 (fun z => h2 (Or.inr z))).trans (a4 c h1 (fun z => h2 (Or.inl z)))
theorem BP.tk {x : Nat} {S' M' : xSt} (f : fT S S') (g : fM M M') : BP x [] [] S M S' M' := ⟨fun c h _ => f.1 c h, fun c h i _ => by rw [f.1 c h], f.2.1, fun c h _ => g.1 c h, fun c h i _ => by rw [g.1 c h], g.2.1, g.2.2⟩
theorem BP.s {x c : Nat} {v : Int32} : BP x [c] [] S M (x_putI S c x v) M := ⟨fun c' _ h => gI_ne _ _ _ (fun z => h (by rw [z]; simp)), fun c' _ i hi => by
  by_cases y : c' = c
  · rw [y, gI_same, up_n _ _ hi]
  · rw [gI_ne _ _ _ y], fun _ _ => rfl, fun _ _ _ => rfl, fun _ _ _ _ => rfl, fun _ _ => rfl, fun _ _ => rfl⟩
theorem BP.m {x c : Nat} {v : Int32} (h0 : c ≠ 0) : BP x [] [c] S M S (x_putI M c x v) := ⟨fun _ _ _ => rfl, fun _ _ _ _ => rfl, fun _ _ => rfl, fun c' _ h => gI_ne _ _ _ (fun z => h (by rw [z]; simp)), fun c' _ i hi => by
  by_cases y : c' = c
  · rw [y, gI_same, up_n _ _ hi]
  · rw [gI_ne _ _ _ y], fun _ _ => rfl, fun j _ => by rw [gI_ne _ _ _ (fun z => h0 z.symm)]⟩
theorem BP.pc {x : Nat} {cs ms : List Nat} {S' M' : xSt} (h : BP x cs ms S M S' M') (hcs : ∀ c, c ∈ cs → 18 ≤ c ∧ c ≤ 40) : FPc S S' := fun c hc => h.1 c (by omega) (fun z => by have := hcs c z; omega)
theorem BP.pm {x : Nat} {cs ms : List Nat} {S' M' : xSt} (h : BP x cs ms S M S' M') (hms : ∀ c, c ∈ kM → c ∉ ms) : FPm M M' := by
  have z1 : ∀ c, c ∈ kM → c ≠ 0 := by decide
  have z2 : ∀ j, j ∈ kJ → j < 2 ∨ 8 < j := by decide
  exact ⟨fun c hc => h.2.2.2.1 c (z1 c hc) (hms c hc), fun j hj => h.2.2.2.2.2.2 j (z2 j hj)⟩
theorem BP.nr {x c from' cnt : Nat} {cs ms : List Nat} {S' M' : xSt} (h : BP x cs ms S M S' M') (hc : c ≠ 19) (hN : NRel c from' cnt S M) : NRel c from' cnt S' M' := hN.fr (fun i _ => by rw [h.2.2.1 c hc]) (fun i _ => by rw [h.2.2.2.2.2.1 2 (by decide)])
abbrev RB1 (hm : xH) (e : Nat) (x : Int32) (M : xSt) (K : xSt → Prop) : Prop := M_M_want hm (e + 2) 28526 M (fun (S2) => M_M_oldName hm (e + 2) 0 (S2.1 0 49) S2 (fun (r3) (S3) => (vp_in x 10 ∧ ((¬ (S3.1 0 2) = 0 → B_M_readButton_48 hm e x (x_putI S3 20 (x).toNatClampNeg r3) K) ∧ ((S3.1 0 2) = 0 → M_M_token hm (e + 3) (x_putI S3 20 (x).toNatClampNeg r3) (fun (S4) => B_M_readButton_48 hm e x S4 K))))))
theorem whoseJ (h : QJ t n k v l q p S M) (hnb : nb < 10) (hn6 : nm ≤ 6) (e1 : S.1 21 0 = nI nm) (e2 : M.1 0 49 = nI nm) (hN : NRel 38 0 nm S M) : (∃ i1 i2 S' M', i1 < nm ∧ i2 < nm ∧ (∀ K, K 1 S' → M_Rd_readWhose hc d (nI nb) S K) ∧ (∀ K, B_M_readButton_108 hm e (nI nb) M' K → RB1 hm e (nI nb) M K) ∧ BP nb [26, 27] [20, 21] S M S' M' ∧ S'.1 26 nb = nI i1 ∧ S'.1 27 nb = nI i2 ∧ M'.1 20 nb = nI i1 ∧ M'.1 21 nb = nI i2 ∧ ∃ k' v' l' q' p', QJ t n k' v' l' q' p' S' M' ∧ q ≤ q' ∧ k' ≤ 5) ∨ (∃ S' M', (∀ K, K 0 S' → M_Rd_readWhose hc d (nI nb) S K) ∧ (∀ K, K M' → RB1 hm e (nI nb) M K) ∧ FPc S S' ∧ FPm M M' ∧ FJ S' M') := by
  have vb : vp_in (nI nb) 10 := vIn (by omega) (by omega)
  have cb : (nI nb).toNatClampNeg = nb := nCl (by omega)
  unfold RB1
  rw [cb]
  rcases wantJ (hc := hc) (d := d) (hm := hm) (e := e + 2) h (w := 7) (by omega) kc7 with ⟨S3, M3, a1, a2, a3, a4, k3, v3, l3, q3, p3, a5, a6, a7⟩ | ⟨S3, M3, a1, a2, a3⟩
  · have b1 : BP nb [] [] S M S3 M3 := BP.tk a3 a4
    have s3 : S3.1 21 0 = nI nm := by rw [a3.1 21 (by decide)]; exact e1
    have m3 : M3.1 0 49 = nI nm := by rw [a4.2.2 49 (by decide)]; exact e2
    rcases oldJ (hc := hc) (d := d + 8) (hm := hm) (e := e + 2) a5 (c := 38) (from' := 0) (cnt := nm) (nr := 6) rfl hn6 (by omega) (by omega) (b1.nr (by decide) hN) with ⟨i1, hi1, hk3, o1, o2⟩ | ⟨S4, M4, o1, o2, o3⟩
    · have hq3 : QJ t n k3 v3 l3 q3 p3 S3 (x_putI M3 20 nb (nI i1)) := a5.fr rfl rfl rfl rfl rfl (fun _ _ _ => rfl) rfl
      have qp3 := (a5.1.2.2.2.2.2.2 (by omega)).2.2.1
      obtain ⟨S4, M4, k4, v4, l4, q4, p4, c1, c2, c3, c4, c5, c6, c7⟩ := advJ (hc := hc) (d := d + 1) (hm := hm) (e := e + 3) hq3 (by omega)
      have f3 : M3.1 0 2 = 0 := a5.2.2.2.1
      have b4 : BP nb [] [20] S M S4 M4 := (b1.tr (BP.m (c := 20) (v := nI i1) (by decide))).tr (BP.tk c3 c4)
      rcases wantJ (hc := hc) (d := d) (hm := hm) (e := e + 2) c5 (w := 8) (by omega) kc8 with ⟨S5, M5, g1, g2, g3, g4, k5, v5, l5, q5, p5, g5, g6, g7⟩ | ⟨S5, M5, g1, g2, g3⟩
      · have b5 : BP nb [] [20] S M S5 M5 := b4.tr (BP.tk g3 g4)
        have s5 : S5.1 21 0 = nI nm := by rw [b5.1 21 (by decide) (by decide)]; exact e1
        have m5 : M5.1 0 49 = nI nm := by rw [b5.2.2.2.2.2.2 49 (by decide)]; exact e2
        have m520 : M5.1 20 nb = nI i1 := by rw [g4.1 20 (by decide), c4.1 20 (by decide), gI_same, up_s]
        have f5 : M5.1 0 2 = 0 := g5.2.2.2.1
        rcases oldJ (hc := hc) (d := d + 8) (hm := hm) (e := e + 2) g5 (c := 38) (from' := 0) (cnt := nm) (nr := 6) rfl hn6 (by omega) (by omega) (b5.nr (by decide) hN) with ⟨i2, hi2, hk5, u1, u2⟩ | ⟨S6, M6, u1, u2, u3⟩
        · have hq5 : QJ t n k5 v5 l5 q5 p5 S5 (x_putI M5 21 nb (nI i2)) := g5.fr rfl rfl rfl rfl rfl (fun _ _ _ => rfl) rfl
          have qp5 := (g5.1.2.2.2.2.2.2 (by omega)).2.2.1
          have b5' : BP nb [] [20, 21] S M S5 (x_putI M5 21 nb (nI i2)) := b5.tr (BP.m (c := 21) (by decide))
          by_cases y : i2 = i1
          · obtain ⟨S6, M6, w1, w2, w3, w4, w5, -⟩ := refJ hq5 (f := 3) (by omega) (by omega)
            obtain ⟨M7, z1, z2⟩ := but_97 (hm := hm) (e := e) hnb w5.bad
            refine Or.inr ⟨S6, M7, fun K H => e_Rd_readWhose (a1 _ (br_nf (by decide) ?_)), fun K H => a2 _ ?_, ?_, ?_, w5.z z1⟩
            · rw [s3]
              refine o1 _ (br_nf (nM1 (by omega)) (c1 _ (g1 _ (br_nf (by decide) ?_))))
              rw [s5]
              exact u1 _ (br_nf (nM1 (by omega)) (br_nt (by rw [y]) (w1 _ _ _ ⟨zb0, H⟩)))
            · rw [m3]
              refine o2 _ ⟨vb, br_nt f3 (c2 _ (b_M_readButton_48 (g2 _ ?_)))⟩
              rw [m5, cb]
              refine u2 _ ⟨vb, br_nt f5 ⟨vb, vb, br_nt (by rw [m520, y]) (w2 _ _ _ (z2 K H))⟩⟩
            · exact (b5'.pc (by simp)).tr w3.pc
            · exact (b5'.pm (by decide)).tr (w4.pm.tr z1.1)
          · obtain ⟨S6, M6, k6, v6, l6, q6, p6, w1, w2, w3, w4, w5, w6, w7⟩ := advJ (hc := hc) (d := d + 1) (hm := hm) (e := e + 3) hq5 (by omega)
            have b6 : BP nb [26, 27] [20, 21] S M (x_putI (x_putI S6 26 nb (nI i1)) 27 nb (nI i2)) M6 := (b5'.tr (BP.tk w3 w4)).tr ((BP.s (c := 26) (v := nI i1)).tr (BP.s (c := 27)))
            refine Or.inl ⟨i1, i2, x_putI (x_putI S6 26 nb (nI i1)) 27 nb (nI i2), M6, hi1, hi2, fun K H => e_Rd_readWhose (a1 _ (br_nf (by decide) ?_)), fun K H => a2 _ ?_, b6, ?_, ?_, ?_, ?_, k6, v6, l6, q6, p6, w5.fr rfl rfl rfl rfl rfl (fun _ _ _ => rfl) rfl, by omega, w7⟩
            · rw [s3]
              refine o1 _ (br_nf (nM1 (by omega)) (c1 _ (g1 _ (br_nf (by decide) ?_))))
              rw [s5]
              refine u1 _ (br_nf (nM1 (by omega)) (br_nf (fun z => y ((nEq (by omega) (by omega)).mp z)) (w1 _ ?_)))
              rw [cb]
              exact ⟨vb, vb, H⟩
            · rw [m3]
              refine o2 _ ⟨vb, br_nt f3 (c2 _ (b_M_readButton_48 (g2 _ ?_)))⟩
              rw [m5, cb]
              refine u2 _ ⟨vb, br_nt f5 ⟨vb, vb, br_nf (fun z => ?_) (b_M_readButton_97 (br_nt f5 (w2 _ H)))⟩⟩
              rw [m520] at z
              exact y ((nEq (by omega) (by omega)).mp z)
            · show upd (S6.1 26) nb _ nb = _
              rw [up_s]
            · rw [gI_same, up_s]
            · rw [w4.1 20 (by decide)]; exact m520
            · rw [w4.1 21 (by decide), gI_same, up_s]
        · have f1 : FZ M6 (x_putI M6 21 nb 0) := FZ.put (by decide) (by decide)
          obtain ⟨M7, z1, z2⟩ := but_97 (hm := hm) (e := e) hnb (u3.2.2.bad.z f1)
          refine Or.inr ⟨S6, M7, fun K H => e_Rd_readWhose (a1 _ (br_nf (by decide) ?_)), fun K H => a2 _ ?_, ?_, ?_, u3.2.2.z (f1.tr z1)⟩
          · rw [s3]
            refine o1 _ (br_nf (nM1 (by omega)) (c1 _ (g1 _ (br_nf (by decide) ?_))))
            rw [s5]
            exact u1 _ (br_nt rfl H)
          · rw [m3]
            refine o2 _ ⟨vb, br_nt f3 (c2 _ (b_M_readButton_48 (g2 _ ?_)))⟩
            rw [m5, cb]
            exact u2 _ ⟨vb, br_nf u3.2.2.bad.2 (z2 K H)⟩
          · exact (b5.pc (by simp)).tr u3.1.pc
          · exact (b5.pm (by decide)).tr (u3.2.1.pm.tr (f1.tr z1).1)
      · have f1 : FZ M5 (x_putI M5 21 nb 0) := FZ.put (by decide) (by decide)
        obtain ⟨M7, z1, z2⟩ := but_97 (hm := hm) (e := e) hnb (g3.2.2.bad.z f1)
        refine Or.inr ⟨S5, M7, fun K H => e_Rd_readWhose (a1 _ (br_nf (by decide) ?_)), fun K H => a2 _ ?_, ?_, ?_, g3.2.2.z (f1.tr z1)⟩
        · rw [s3]
          exact o1 _ (br_nf (nM1 (by omega)) (c1 _ (g1 _ (br_nt rfl H))))
        · rw [m3]
          refine o2 _ ⟨vb, br_nt f3 (c2 _ (b_M_readButton_48 (g2 _ (old_f g3.2.2.bad ?_))))⟩
          rw [cb]
          exact ⟨vb, br_nf g3.2.2.bad.2 (z2 K H)⟩
        · exact (b4.pc (by simp)).tr g3.1.pc
        · exact (b4.pm (by decide)).tr (g3.2.1.pm.tr (f1.tr z1).1)
    · have f1 : FZ M4 (x_putI M4 20 nb 0) := FZ.put (by decide) (by decide)
      obtain ⟨M7, z1, z2⟩ := but_48 (hm := hm) (e := e) hnb (o3.2.2.bad.z f1)
      refine Or.inr ⟨S4, M7, fun K H => e_Rd_readWhose (a1 _ (br_nf (by decide) ?_)), fun K H => a2 _ ?_, ?_, ?_, o3.2.2.z (f1.tr z1)⟩
      · rw [s3]
        exact o1 _ (br_nt rfl H)
      · rw [m3]
        exact o2 _ ⟨vb, br_nf o3.2.2.bad.2 (z2 K H)⟩
      · exact a3.pc.tr o3.1.pc
      · exact a4.pm.tr (o3.2.1.pm.tr (f1.tr z1).1)
  · have f1 : FZ M3 (x_putI M3 20 nb 0) := FZ.put (by decide) (by decide)
    obtain ⟨M7, z1, z2⟩ := but_48 (hm := hm) (e := e) hnb (a3.2.2.bad.z f1)
    refine Or.inr ⟨S3, M7, fun K H => e_Rd_readWhose (a1 _ (br_nt rfl H)), fun K H => a2 _ (old_f a3.2.2.bad ⟨vb, br_nf a3.2.2.bad.2 (z2 K H)⟩), a3.1.pc, a3.2.1.pm.tr (f1.tr z1).1, a3.2.2.z (f1.tr z1)⟩
end
end
