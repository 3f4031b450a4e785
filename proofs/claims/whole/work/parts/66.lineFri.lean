section
variable {hc hm : xH} {d e : Nat} {S M : xSt}
section
variable {t : Nat → Nat} {n k v q p nm nd nb nf hd st : Nat} {l : List Nat}
theorem DR_friend {S' M' : xSt} (h : DR nm nd nb nf hd st S M) (h15 : nf < 15) {i1 i2 : Nat} (hi1 : i1 < nm) (hi2 : i2 < nm) (hne : i1 ≠ i2) {x : Int32} (hx : -9 ≤ x ∧ x ≤ 9)
    (s1 : ∀ c, c ≠ 19 → c ≠ 21 → c ≠ 33 → S'.1 c = S.1 c) (s2 : ∀ j, j ≠ 14 → S'.1 21 j = S.1 21 j) (s3 : S'.1 21 14 = nI (nf + 1)) (s4 : ∀ i j, i < 6 → j < 6 → S'.1 33 (6 * i + j) = if (i = i1 ∧ j = i2) ∨ (i = i2 ∧ j = i1) then x else S.1 33 (6 * i + j))
    (m1 : ∀ c, c ≠ 0 → c ≠ 14 → M'.1 c = M.1 c) (m2 : ∀ j, j < 2 ∨ 8 < j → j ≠ 52 → M'.1 0 j = M.1 0 j) (m3 : M'.1 0 52 = nI (nf + 1)) (m4 : ∀ i j, i < 6 → j < 6 → M'.1 14 (6 * i + j) = if (i = i1 ∧ j = i2) ∨ (i = i2 ∧ j = i1) then x else M.1 14 (6 * i + j))
    (n1 : NRel 38 0 nm S' M') (n2 : NRel 39 6 nd S' M') (n3 : NRel 40 12 nb S' M') : DR nm nd nb (nf + 1) hd st S' M' := by
  obtain ⟨⟨t1, t2, t3, t4, t5, t6, t7, t8, t9, t10, t11⟩, ⟨⟨r1, r2, r3, r4, r5, r6⟩, r7, r8, r9, r10⟩, w, o, -, sn, dr⟩ := h
  have f : ∀ c, c ≠ 19 → c ≠ 21 → c ≠ 33 → S'.1 c = S.1 c := s1
  have nm6 := t1.2
  refine ⟨⟨?_, ?_, ?_, ⟨s3, by omega⟩, ?_, ?_, ?_, ?_, fun b' hb' => ?_, fun i j hi hj => ⟨?_, ?_⟩, fun i hi => ?_⟩, ⟨⟨?_, ?_, ?_, ?_, ?_, ?_⟩, ?_, ?_, ?_, fun i j hi hj => ?_⟩, ?_, fun i j hi hj hij => ?_, ⟨n1, n2, n3⟩, ?_, ?_⟩
  · rw [s2 0 (by decide)]; exact t1
  · rw [s2 4 (by decide)]; exact t2
  · rw [s2 6 (by decide)]; exact t3
  · rw [s2 17 (by decide)]; exact t5
  · rw [s2 18 (by decide)]; exact t6
  · rw [f 22 (by decide) (by decide) (by decide), f 23 (by decide) (by decide) (by decide), f 24 (by decide) (by decide) (by decide)]; exact t7
  · rw [f 25 (by decide) (by decide) (by decide)]; exact t8
  · rw [f 26 (by decide) (by decide) (by decide), f 27 (by decide) (by decide) (by decide), f 28 (by decide) (by decide) (by decide), f 29 (by decide) (by decide) (by decide), f 30 (by decide) (by decide) (by decide), f 31 (by decide) (by decide) (by decide), f 32 (by decide) (by decide) (by decide)]; exact t9 b' hb'
  · rw [s4 i j hi hj]
    by_cases y : (i = i1 ∧ j = i2) ∨ (i = i2 ∧ j = i1)
    · rw [if_pos y]; exact Or.inr hx
    · rw [if_neg y]; exact (t10 i j hi hj).1
  · rw [s4 i j hi hj, s4 j i hj hi]
    by_cases y : (i = i1 ∧ j = i2) ∨ (i = i2 ∧ j = i1)
    · rw [if_pos y, if_pos (by omega)]
    · rw [if_neg y, if_neg (by omega)]; exact (t10 i j hi hj).2
  · rw [s4 i i hi hi, if_neg (by omega)]; exact t11 i hi
  · rw [m2 49 (by decide) (by decide), s2 0 (by decide)]; exact r1
  · rw [m2 50 (by decide) (by decide), s2 4 (by decide)]; exact r2
  · rw [m2 51 (by decide) (by decide), s2 6 (by decide)]; exact r3
  · rw [m3, s3]
  · rw [m2 53 (by decide) (by decide), s2 17 (by decide)]; exact r5
  · rw [m2 54 (by decide) (by decide), s2 18 (by decide)]; exact r6
  · rw [f 22 (by decide) (by decide) (by decide), f 23 (by decide) (by decide) (by decide), f 24 (by decide) (by decide) (by decide), m1 10 (by decide) (by decide), m1 11 (by decide) (by decide), m1 12 (by decide) (by decide)]; exact r7
  · rw [f 25 (by decide) (by decide) (by decide), m1 13 (by decide) (by decide)]; exact r8
  · rw [f 26 (by decide) (by decide) (by decide), f 27 (by decide) (by decide) (by decide), f 28 (by decide) (by decide) (by decide), f 29 (by decide) (by decide) (by decide), f 30 (by decide) (by decide) (by decide), f 31 (by decide) (by decide) (by decide), f 32 (by decide) (by decide) (by decide), m1 20 (by decide) (by decide), m1 21 (by decide) (by decide), m1 22 (by decide) (by decide), m1 23 (by decide) (by decide), m1 24 (by decide) (by decide), m1 25 (by decide) (by decide), m1 32 (by decide) (by decide)]; exact r9
  · rw [s4 i j (by omega) (by omega), m4 i j (by omega) (by omega)]
    by_cases y : (i = i1 ∧ j = i2) ∨ (i = i2 ∧ j = i1)
    · rw [if_pos y, if_pos y]
    · rw [if_neg y, if_neg y]; exact r10 i j hi hj
  · rw [f 34 (by decide) (by decide) (by decide), f 35 (by decide) (by decide) (by decide), m2 62 (by decide) (by decide), m2 17 (by decide) (by decide), m2 20 (by decide) (by decide), m1 3 (by decide) (by decide), m1 4 (by decide) (by decide)]; exact w
  · rw [s4 i j hi hj, if_neg (by omega)]; exact o i j hi hj hij
  · rw [f 18 (by decide) (by decide) (by decide), m2 62 (by decide) (by decide), m2 63 (by decide) (by decide), m2 64 (by decide) (by decide), m2 65 (by decide) (by decide)]; exact sn
  · rw [m2 55 (by decide) (by decide), m2 62 (by decide) (by decide), s2 19 (by decide), f 34 (by decide) (by decide) (by decide)]; exact dr
-- behind a fault, the rest of a friend's line
theorem fri_79 {x1 x2 : Int32} (hb : Bad M) {K : xSt → Prop} (H : K M) : B_M_readFriend_79 hm e x1 x2 M K := b_M_readFriend_79 (br_f hb.1 H)
theorem fri_68 {x1 x2 : Int32} (hb : Bad M) {K : xSt → Prop} (H : K M) : B_M_readFriend_68 hm e x1 x2 M K := b_M_readFriend_68 (br_nf hb.2 (fri_79 hb H))
theorem fri_25 {x1 : Int32} (hb : Bad M) {K : xSt → Prop} (H : K M) : B_M_readFriend_25 hm e x1 M K := b_M_readFriend_25 (old_f hb (br_nf hb.2 (fri_68 hb H)))
/-- the worth's number; s: a minus stands at w ahead of it -/
theorem worthJ (h : QJ t n k v l q p S M) (hD : DR nm nd nb nf hd st S M) (h15 : nf < 15) {i1 i2 : Nat} (hi1 : i1 < nm) (hi2 : i2 < nm) (hne : i1 ≠ i2) {s w : Nat} (hs : s ≤ 1) (hw : s = 0 → w = q) :
  (∃ S' M', (∀ K, K 1 S' → B_Rd_readWorth_30 hc d (nI i1) (nI i2) (nI s) (nI w) S K) ∧ (∀ K, K M' → B_M_readFriend_117 hm e (nI i1) (nI i2) (nI w) (nI s) M K) ∧ FPc S S' ∧ FPm M M' ∧ (∃ k v l q' p', QJ t n k v l q' p' S' M' ∧ q ≤ q' ∧ k ≤ 5) ∧ ∃ nm nd nb nf hd st, DR nm nd nb nf hd st S' M') ∨ (∃ S' M', (∀ K, K 0 S' → B_Rd_readWorth_30 hc d (nI i1) (nI i2) (nI s) (nI w) S K) ∧ (∀ K, K M' → B_M_readFriend_117 hm e (nI i1) (nI i2) (nI w) (nI s) M K) ∧ FPc S S' ∧ FPm M M' ∧ FJ S' M') := by
  have f0 := h.2.f0
  have nm6 := hD.1.1.2
  have f0' : M.1 0 2 = 0 := h.2.2.2.1
  obtain ⟨t1, t2, t3⟩ := tk_num h.1.2.2.2.2.2.1
  have a3 : S.1 19 3 = nI q := h.1.2.2.1
  have a4 : M.1 0 7 = nI q := h.1.2.2.2.1
  have e21 : S.1 21 14 = nI nf := hD.1.2.2.2.1.1
  have m52 : M.1 0 52 = nI nf := by rw [hD.2.1.1.2.2.2.1]; exact e21
  by_cases c : k = 4
  · obtain ⟨v1, v2, v3⟩ := t3 c
    have qp := (h.1.2.2.2.2.2.2 (by omega)).2.2.1
    by_cases y : v ≤ 9
    · -- told
      obtain ⟨x, hx, hxC, hxM, hxM2⟩ : ∃ x : Int32, (-9 ≤ x ∧ x ≤ 9) ∧ (∀ K, B_Rd_readWorth_101 hc d x (nI i2) (nI i1) S K → ((nI s = 0 → B_Rd_readWorth_101 hc d (nI v) (nI i2) (nI i1) S K) ∧ (¬ nI s = 0 → B_Rd_readWorth_101 hc d (-(nI v)) (nI i2) (nI i1) S K))) ∧ (∀ (M' : xSt) K, B_M_readFriend_175 hm e (nI i1) (nI i2) (nI s) (nI v) x (6 * nI i1 + nI i2) M' K → ((nI s = 0 → B_M_readFriend_175 hm e (nI i1) (nI i2) (nI s) (nI v) (nI v) (6 * nI i1 + nI i2) M' K) ∧ (¬ nI s = 0 → B_M_readFriend_175 hm e (nI i1) (nI i2) (nI s) (nI v) (-(nI v)) (6 * nI i1 + nI i2) M' K))) ∧ (∀ (M' : xSt) (z : Int32) K, B_M_readFriend_199 hm e x z M' K → ((nI s = 0 → B_M_readFriend_199 hm e (nI v) z M' K) ∧ (¬ nI s = 0 → B_M_readFriend_199 hm e (-(nI v)) z M' K))) := by
        by_cases z : s = 0
        · have z0 : nI s = 0 := by rw [z]; rfl
          refine ⟨nI v, ?_, fun K H => br_t z0 H, fun M' K H => br_t z0 H, fun M' z K H => br_t z0 H⟩
          have : ∀ v, v ≤ 9 → -9 ≤ nI v ∧ nI v ≤ 9 := by decide
          exact this v y
        · have z0 : ¬ nI s = 0 := by rw [show s = 1 by omega]; decide
          refine ⟨-(nI v), ?_, fun K H => br_f z0 H, fun M' K H => br_f z0 H, fun M' z K H => br_f z0 H⟩
          have : ∀ v, v ≤ 9 → -9 ≤ -(nI v) ∧ -(nI v) ≤ 9 := by decide
          exact this v y
      have e1 : nI i1 * 6 + nI i2 = nI (6 * i1 + i2) := by rw [show (6 : Int32) = nI 6 from rfl, pk_mul, nI_add, Nat.mul_comm]
      have e2 : nI i2 * 6 + nI i1 = nI (6 * i2 + i1) := by rw [show (6 : Int32) = nI 6 from rfl, pk_mul, nI_add, Nat.mul_comm]
      have e3 : (6 : Int32) * nI i1 + nI i2 = nI (6 * i1 + i2) := by rw [show (6 : Int32) = nI 6 from rfl, pk_mul, nI_add]
      have e4 : (6 : Int32) * nI i2 + nI i1 = nI (6 * i2 + i1) := by rw [show (6 : Int32) = nI 6 from rfl, pk_mul, nI_add]
      have hq1 : QJ t n k v l q p (x_putI (x_putI (x_putI S 33 (6 * i1 + i2) x) 33 (6 * i2 + i1) x) 21 14 (nI (nf + 1))) M := h.fr rfl rfl rfl rfl rfl (fun _ _ _ => rfl) rfl
      obtain ⟨S2, M2, k2, v2', l2, q2, p2, c1, c2, c3, c4, c5, c6, c7⟩ := advJ (hc := hc) (d := d) (hm := hm) (e := e) hq1 (by omega)
      have f2 : M2.1 0 2 = 0 := c5.2.2.2.1
      have m2 : M2.1 0 52 = nI nf := by rw [c4.2.2 52 (by decide)]; exact m52
      have pick : ∀ (f : Nat → Int32) i j, i < 6 → j < 6 → upd (upd f (6 * i1 + i2) x) (6 * i2 + i1) x (6 * i + j) = if (i = i1 ∧ j = i2) ∨ (i = i2 ∧ j = i1) then x else f (6 * i + j) := by
        intro f i j hi hj
        by_cases y1 : i = i2 ∧ j = i1
        · rw [if_pos (Or.inr y1), y1.1, y1.2, up_s]
        · rw [up_n _ _ (by omega)]
          by_cases y2 : i = i1 ∧ j = i2
          · rw [if_pos (Or.inl y2), y2.1, y2.2, up_s]
          · rw [up_n _ _ (by omega), if_neg (by omega)]
      refine Or.inl ⟨S2, x_putI (x_putI (x_putI M2 14 (6 * i1 + i2) x) 14 (6 * i2 + i1) x) 0 52 (nI (nf + 1)), fun K H => b_Rd_readWorth_30 (br_t (t1.mpr c) ?_), fun K H => b_M_readFriend_117 (e_M_toldNumber (br_t f0.1 (br_t (t2.mpr c) ?_))), ?_, ?_, ⟨k2, v2', l2, q2, p2, c5.fr rfl rfl rfl rfl rfl (fun j h1 h2 => by rw [gI_same, up_n _ _ (by omega)]; rfl) rfl, by omega, c7⟩, nm, nd, nb, nf + 1, hd, st, ?_⟩
      · rw [v2]
        refine br_t ((nLe (b := 9) (by omega) (by omega)).mpr y) (hxC K (b_Rd_readWorth_101 (e_Rg_befriend_21 ?_)))
        rw [e1, e2, nCl (by omega), nCl (by omega), e21, nI_1]
        exact ⟨vIn (by omega) (by omega), vIn (by omega) (by omega), c1 _ H⟩
      · rw [v3]
        refine br_f (fun z => by have := (nLt (b := 0) (by omega) (by omega)).mp z; omega) (br_t ((nLe (b := 9) (by omega) (by omega)).mpr y) (b_M_toldNumber_46 (br_nt f0.2 (c2 _ ?_))))
        rw [v3]
        refine br_nf (by rw [f2]; decide) (b_M_readFriend_144 (br_t (by rw [f2]; decide) (hxM _ K (b_M_readFriend_175 ⟨?_, hxM2 _ _ K (b_M_readFriend_199 ⟨?_, ?_⟩)⟩))))
        · rw [e3]; exact vIn (by omega) (by omega)
        · rw [e4]; exact vIn (by omega) (by omega)
        · rw [e3, e4, nCl (by omega), nCl (by omega)]
          show K (x_putI _ 0 52 (M2.1 0 52 + 1))
          rw [m2, nI_1]; exact H
      · exact ((FPc.put (S := S) (c := 33) (by omega)).tr ((FPc.put (by omega)).tr (FPc.put (by omega)))).tr c3.pc
      · exact c4.pm.tr (((FZ.put (M := M2) (c := 14) (j := 6 * i1 + i2) (v := x) (by decide) (by decide)).tr (FZ.put (by decide) (by decide))).tr (FZ.put0 (by decide) (by decide) (by decide))).1
      · refine DR_friend hD h15 hi1 hi2 hne hx (fun c h1 h2 h3 => ?_) (fun j hj => ?_) ?_ (fun i j hi hj => ?_) (fun c h1 h2 => ?_) (fun j hj h5 => ?_) ?_ (fun i j hi hj => ?_) ?_ ?_ ?_
        · rw [c3.1 c h1, gI_ne _ _ _ h2, gI_ne _ _ _ h3, gI_ne _ _ _ h3]
        · rw [c3.1 21 (by decide), gI_same, up_n _ _ hj]; rfl
        · rw [c3.1 21 (by decide), gI_same, up_s]
        · rw [c3.1 33 (by decide), gI_ne _ _ _ (by decide), gI_same, gI_same]; exact pick _ i j hi hj
        · rw [gI_ne _ _ _ h1, gI_ne _ _ _ h2, gI_ne _ _ _ h2, c4.1 c h1]
        · rw [gI_same, up_n _ _ h5]; exact c4.2.2 j hj
        · rw [gI_same, up_s]
        · rw [gI_ne _ _ _ (by decide), gI_same, gI_same, pick _ i j hi hj, c4.1 14 (by decide)]
        · exact hD.2.2.2.2.1.1.fr (fun i _ => by rw [c3.2.1 38 (by decide)]; rfl) (fun i _ => by show M2.2.1 2 _ = _; rw [c4.2.1 2 (by decide)])
        · exact hD.2.2.2.2.1.2.1.fr (fun i _ => by rw [c3.2.1 39 (by decide)]; rfl) (fun i _ => by show M2.2.1 2 _ = _; rw [c4.2.1 2 (by decide)])
        · exact hD.2.2.2.2.1.2.2.fr (fun i _ => by rw [c3.2.1 40 (by decide)]; rfl) (fun i _ => by show M2.2.1 2 _ = _; rw [c4.2.1 2 (by decide)])
    · -- too much
      have s3 : ¬ M.1 0 6 = 3 := by rw [t2.mpr c]; decide
      have key : ∀ M' K, K M' → M' = x_putI (x_putI M 0 2 4) 0 3 (nI w) → B_M_readFriend_117 hm e (nI i1) (nI i2) (nI w) (nI s) M K := by
        intro M' K H hM'
        refine b_M_readFriend_117 (e_M_toldNumber (br_t f0.1 (br_t (t2.mpr c) ?_)))
        rw [v3]
        refine br_f (fun z => by have := (nLt (b := 0) (by omega) (by omega)).mp z; omega) (br_f (fun z => by have := (nLe (b := 9) (by omega) (by omega)).mp z; omega) (b_M_toldNumber_41 (e_M_wrong (br_t f0.1 (br_nf s3 (b_M_wrong_22 (b_M_toldNumber_46 (br_nf ?_ ?_))))))))
        · show ¬ upd (upd (M.1 0) 2 4) 3 (M.1 0 7) 2 = 0
          rw [up_n _ _ (by decide), up_s]; decide
        · have four : (x_putI (x_putI M 0 2 4) 0 3 (M.1 0 7)).1 0 2 = 4 := by
            show upd (upd (M.1 0) 2 4) 3 (M.1 0 7) 2 = 4
            rw [up_n _ _ (by decide), up_s]
          refine br_nt four ?_
          by_cases z : s = 0
          · refine br_t (by rw [z]; rfl) (b_M_readFriend_144 (br_f (by rw [four]; decide) ?_))
            rw [a4, ← hw z, ← hM']; exact H
          · refine br_f (by rw [show s = 1 by omega]; decide) (b_M_readFriend_144 (br_f ?_ ?_))
            · show ¬ upd (upd (upd (M.1 0) 2 4) 3 (M.1 0 7)) 3 (nI w) 2 ≤ 0
              rw [up_n _ _ (by decide), up_n _ _ (by decide), up_s]; decide
            · have : x_putI (x_putI (x_putI M 0 2 4) 0 3 (M.1 0 7)) 0 3 (nI w) = M' := by
                rw [hM']
                refine Prod.ext (funext fun c' => ?_) rfl
                by_cases u : c' = 0
                · rw [u, gI_same, gI_same, gI_same, gI_same]
                  funext j
                  by_cases u3 : j = 3
                  · rw [u3, up_s, up_s]
                  · rw [up_n _ _ u3, up_n _ _ u3, up_n _ _ u3]; rfl
                · rw [gI_ne _ _ _ u, gI_ne _ _ _ u, gI_ne _ _ _ u, gI_ne _ _ _ u, gI_ne _ _ _ u]
              rw [this]; exact H
      refine Or.inr ⟨x_putI (x_putI S 19 7 4) 19 8 (nI w), x_putI (x_putI M 0 2 4) 0 3 (nI w), fun K H => b_Rd_readWorth_30 (br_t (t1.mpr c) ?_), fun K H => key _ K H rfl, ?_, ?_, 4, by omega, by omega, ?_, ?_, ?_⟩
      · rw [v2]
        exact br_f (fun z => by have := (nLe (b := 9) (by omega) (by omega)).mp z; omega) (e_Tk_refuseAt ⟨zb0, H⟩)
      · exact (FPc.put (by omega)).tr (FPc.put (by omega))
      · exact ⟨fun c hc => by have z1 : ∀ c, c ∈ kM → c ≠ 0 := by decide
                              rw [gI_ne _ _ _ (z1 c hc), gI_ne _ _ _ (z1 c hc)], fun j hj => by
          have z2 : ∀ j, j ∈ kJ → j ≠ 2 ∧ j ≠ 3 := by decide
          rw [gI_same, up_n _ _ (z2 j hj).2, gI_same, up_n _ _ (z2 j hj).1]⟩
      · rw [gI_same, up_n _ _ (by decide), gI_same, up_s]; rfl
      · rw [gI_same, up_n _ _ (by decide), gI_same, up_s]; rfl
      · rw [gI_same, up_s, gI_same, up_s]
  · obtain ⟨S', M', r1, r2, r3, r4, r5, r6⟩ := refJ h (f := 2) (by omega) (by omega)
    have bad := r5.bad
    have n4 : ¬ M'.1 0 2 = 4 := by
      rw [r6]
      by_cases z : k = 1
      · rw [if_pos z]; decide
      · rw [if_neg z]; decide
    exact Or.inr ⟨S', M', fun K H => b_Rd_readWorth_30 (br_f (fun z => c (t1.mp z)) (r1 _ _ _ ⟨zb0, H⟩)), fun K H => b_M_readFriend_117 (e_M_toldNumber (br_t f0.1 (br_f (fun z => c (t2.mp z)) (r2 _ _ _ (b_M_toldNumber_46 (br_nf bad.2 (br_nf n4 (b_M_readFriend_144 (br_f bad.1 H))))))))), r3.pc, r4.pm, r5⟩
theorem lineFriend (h : QJ t n k v l q p S M) (hk : 2 ≤ k) (hD : DR nm nd nb nf hd st S M) (h15 : nf < 15) : LJ t n p (M_Rd_readFriend hc d S) (M_M_readFriend hm e M) S M := by
  have em : S.1 21 14 = nI nf := hD.1.2.2.2.1.1
  have nm6 := hD.1.1.2
  obtain ⟨S1, M1, k1, v1, l1, q1, p1, a1, a2, a3, a4, a5, a6, a7⟩ := advJ (hc := hc) (d := d) (hm := hm) (e := e + 1) h hk
  have D1 := hD.fr a3 a4
  have s1 : S1.1 21 0 = nI nm := D1.1.1.1
  have m1 : M1.1 0 49 = nI nm := by rw [D1.2.1.1.1]; exact s1
  have f1 : M1.1 0 2 = 0 := a5.2.2.2.1
  have preC : ∀ K : Int32 → xSt → Prop, M_Rd_oldName hc (d + 8) 38 (nI nm) S1 (fun (r2) (S2) => ((¬ r2 = (-1) → M_Tk_advance hc (d + 1) S2 (fun (S3) => M_Rd_oldName hc (d + 8) 38 (S3.1 21 0) S3 (fun (r4) (S4) => ((¬ r4 = (-1) → ((r2 = r4 → M_Tk_refuse hc (d + 9) 3 S4 (fun (r5) (S5) => (zb r5 ∧ K r5 S5))) ∧ (¬ r2 = r4 → M_Rg_worthOf_21 hc (d + 10) r2 r4 S4 (fun (r6) (S6) => ((r6 = (-100) → M_Tk_advance hc (d + 1) S6 (fun (S7) => M_Rd_readWorth hc d r2 r4 S7 (fun (r8) (S8) => (zb r8 ∧ K r8 S8)))) ∧ (¬ r6 = (-100) → M_Tk_refuse hc (d + 9) 3 S6 (fun (r9) (S9) => (zb r9 ∧ K r9 S9)))))))) ∧ (r4 = (-1) → K 0 S4))))) ∧ (r2 = (-1) → K 0 S2))) → M_Rd_readFriend hc d S K := by
    intro K H
    refine e_Rd_readFriend ?_
    rw [em]
    refine e_Rd_opens (br_t ((nLt (b := 15) (by omega) (by omega)).mpr h15) (a1 _ (br_nf (by decide) ?_)))
    rw [s1]; exact H
  rcases oldJ (hc := hc) (d := d + 8) (hm := hm) (e := e) a5 (c := 38) (from' := 0) (cnt := nm) (nr := 6) rfl nm6 (by omega) (by omega) D1.2.2.2.2.1.1 with ⟨i1, hi1, hk1, o1, o2⟩ | ⟨S2, M2, o1, o2, o3⟩
  · have qp1 := (a5.1.2.2.2.2.2.2 (by omega)).2.2.1
    obtain ⟨S3, M3, k3, v3, l3, q3, p3, b1, b2, b3, b4, b5, b6, b7⟩ := advJ (hc := hc) (d := d + 1) (hm := hm) (e := e + 1) a5 (by omega)
    have D3 := D1.fr b3 b4
    have s3 : S3.1 21 0 = nI nm := D3.1.1.1
    have m3 : M3.1 0 49 = nI nm := by rw [D3.2.1.1.1]; exact s3
    have f3 : M3.1 0 2 = 0 := b5.2.2.2.1
    have preM : ∀ K, B_M_readFriend_25 hm e (nI i1) M3 K → M_M_readFriend hm e M K := by
      intro K H
      refine e_M_readFriend (a2 _ ?_)
      rw [m1]
      exact o2 _ (br_nt f1 (b2 _ H))
    rcases oldJ (hc := hc) (d := d + 8) (hm := hm) (e := e) b5 (c := 38) (from' := 0) (cnt := nm) (nr := 6) rfl nm6 (by omega) (by omega) D3.2.2.2.2.1.1 with ⟨i2, hi2, hk3, u1, u2⟩ | ⟨S4, M4, u1, u2, u3⟩
    · have qp3 := (b5.1.2.2.2.2.2.2 (by omega)).2.2.1
      have fc : FPc S S3 := a3.pc.tr b3.pc
      have fm : FPm M M3 := a4.pm.tr b4.pm
      by_cases y : i1 = i2
      · obtain ⟨S4, M4, r1, r2, r3, r4, r5, -⟩ := refJ b5 (f := 3) (by omega) (by omega)
        refine Or.inr ⟨S4, M4, fun K H => preC K (o1 _ (br_nf (nM1 (by omega)) (b1 _ ?_))), fun K H => preM K (b_M_readFriend_25 ?_), fc.tr r3.pc, fm.tr r4.pm, r5⟩
        · rw [s3]
          exact u1 _ (br_nf (nM1 (by omega)) (br_t (by rw [y]) (r1 _ _ _ ⟨zb0, H⟩)))
        · rw [m3]
          exact u2 _ (br_nt f3 (br_t (by rw [y]) (b_M_readFriend_63 (r2 _ _ _ (fri_68 r5.bad H)))))
      · have ne : ¬ nI i1 = nI i2 := fun z => y ((nEq (by omega) (by omega)).mp z)
        have e1 : nI i1 * 6 + nI i2 = nI (6 * i1 + i2) := by rw [show (6 : Int32) = nI 6 from rfl, pk_mul, nI_add, Nat.mul_comm]
        have e3 : (6 : Int32) * nI i1 + nI i2 = nI (6 * i1 + i2) := by rw [show (6 : Int32) = nI 6 from rfl, pk_mul, nI_add]
        have ew : M3.1 14 (6 * i1 + i2) = S3.1 33 (6 * i1 + i2) := D3.2.1.2.2.2.2 i1 i2 hi1 hi2
        have preC2 : ∀ K : Int32 → xSt → Prop, ((S3.1 33 (6 * i1 + i2) = (-100) → M_Tk_advance hc (d + 1) S3 (fun (S7) => M_Rd_readWorth hc d (nI i1) (nI i2) S7 (fun (r8) (S8) => (zb r8 ∧ K r8 S8)))) ∧ (¬ S3.1 33 (6 * i1 + i2) = (-100) → M_Tk_refuse hc (d + 9) 3 S3 (fun (r9) (S9) => (zb r9 ∧ K r9 S9)))) → M_Rd_readFriend hc d S K := by
          intro K H
          refine preC K (o1 _ (br_nf (nM1 (by omega)) (b1 _ ?_)))
          rw [s3]
          refine u1 _ (br_nf (nM1 (by omega)) (br_f ne (e_Rg_worthOf_21 ?_)))
          rw [e1, nCl (by omega)]
          exact ⟨vIn (by omega) (by omega), H⟩
        have preM2 : ∀ K, ((S3.1 33 (6 * i1 + i2) = (-100) → B_M_readFriend_68 hm e (nI i1) (nI i2) M3 K) ∧ (¬ S3.1 33 (6 * i1 + i2) = (-100) → B_M_readFriend_63 hm e (nI i1) (nI i2) M3 K)) → M_M_readFriend hm e M K := by
          intro K H
          refine preM K (b_M_readFriend_25 ?_)
          rw [m3]
          refine u2 _ (br_nt f3 (br_f ne ?_))
          rw [e3, nCl (by omega), ew]
          exact ⟨vIn (by omega) (by omega), H⟩
        by_cases w : S3.1 33 (6 * i1 + i2) = -100
        · obtain ⟨S5, M5, k5, v5, l5, q5, p5, c1, c2, c3, c4, c5, c6, c7⟩ := advJ (hc := hc) (d := d + 1) (hm := hm) (e := e + 1) b5 (by omega)
          have D5 := D3.fr c3 c4
          have a35 : S5.1 19 3 = nI q5 := c5.1.2.2.1
          have a45 : M5.1 0 7 = nI q5 := c5.1.2.2.2.1
          have f5 : M5.1 0 2 = 0 := c5.2.2.2.1
          have f5' := c5.2.f0
          have fc5 : FPc S S5 := fc.tr c3.pc
          have fm5 : FPm M M5 := fm.tr c4.pm
          obtain ⟨g1, g2⟩ := tk_sign c5.1.2.2.2.2.2.1 (w := 45) (by decide)
          by_cases z : k5 = 5 ∧ v5 = 45
          · have qp5 := (c5.1.2.2.2.2.2.2 (by omega)).2.2.1
            obtain ⟨S6, M6, k6, v6, l6, q6, p6, x1, x2, x3, x4, x5, x6, x7⟩ := advJ (hc := hc) (d := d) (hm := hm) (e := e + 1) c5 (by omega)
            have pC : ∀ K : Int32 → xSt → Prop, B_Rd_readWorth_30 hc d (nI i1) (nI i2) (nI 1) (nI q5) S6 (fun r8 S8 => zb r8 ∧ K r8 S8) → M_Rd_readFriend hc d S K := by
              intro K H
              refine preC2 K (br_t w (c1 _ (e_Rd_readWorth (signC (w := 45) c5 (by decide) ?_))))
              rw [if_pos z, a35]
              exact br_f (by decide) (x1 _ H)
            have pM : ∀ K, B_M_readFriend_117 hm e (nI i1) (nI i2) (nI q5) (nI 1) M6 K → M_M_readFriend hm e M K := by
              intro K H
              refine preM2 K (br_t w (b_M_readFriend_68 (br_nt f3 (c2 _ (b_M_readFriend_79 (br_t f5'.1 (br_nt (g2.mpr z) ?_)))))))
              rw [a45]
              exact b_M_readFriend_106 (br_f (by decide) (x2 _ H))
            rcases worthJ (hc := hc) (d := d) (hm := hm) (e := e) x5 (D5.fr x3 x4) h15 hi1 hi2 y (s := 1) (w := q5) (by omega) (by omega) with ⟨S7, M7, y1, y2, y3, y4, ⟨k7, v7, l7, q7, p7, y5, y6, y7⟩, y8⟩ | ⟨S7, M7, y1, y2, y3, y4, y5⟩
            · exact Or.inl ⟨S7, M7, fun K H => pC K (y1 _ ⟨zb1, H⟩), fun K H => pM K (y2 _ H), fc5.tr (x3.pc.tr y3), fm5.tr (x4.pm.tr y4), ⟨k7, v7, l7, q7, p7, y5, by omega, y7⟩, y8⟩
            · exact Or.inr ⟨S7, M7, fun K H => pC K (y1 _ ⟨zb0, H⟩), fun K H => pM K (y2 _ H), fc5.tr (x3.pc.tr y3), fm5.tr (x4.pm.tr y4), y5⟩
          · have pC : ∀ K : Int32 → xSt → Prop, B_Rd_readWorth_30 hc d (nI i1) (nI i2) (nI 0) (nI q5) S5 (fun r8 S8 => zb r8 ∧ K r8 S8) → M_Rd_readFriend hc d S K := by
              intro K H
              refine preC2 K (br_t w (c1 _ (e_Rd_readWorth (signC (w := 45) c5 (by decide) ?_))))
              rw [if_neg z, a35]
              exact br_t rfl H
            have pM : ∀ K, B_M_readFriend_117 hm e (nI i1) (nI i2) (nI q5) (nI 0) M5 K → M_M_readFriend hm e M K := by
              intro K H
              refine preM2 K (br_t w (b_M_readFriend_68 (br_nt f3 (c2 _ (b_M_readFriend_79 (br_t f5'.1 (br_nf (fun u => z (g2.mp u)) ?_)))))))
              rw [a45]
              exact b_M_readFriend_106 (br_t rfl H)
            rcases worthJ (hc := hc) (d := d) (hm := hm) (e := e) c5 D5 h15 hi1 hi2 y (s := 0) (w := q5) (by omega) (by omega) with ⟨S7, M7, y1, y2, y3, y4, ⟨k7, v7, l7, q7, p7, y5, y6, y7⟩, y8⟩ | ⟨S7, M7, y1, y2, y3, y4, y5⟩
            · exact Or.inl ⟨S7, M7, fun K H => pC K (y1 _ ⟨zb1, H⟩), fun K H => pM K (y2 _ H), fc5.tr y3, fm5.tr y4, ⟨k7, v7, l7, q7, p7, y5, by omega, y7⟩, y8⟩
            · exact Or.inr ⟨S7, M7, fun K H => pC K (y1 _ ⟨zb0, H⟩), fun K H => pM K (y2 _ H), fc5.tr y3, fm5.tr y4, y5⟩
        · obtain ⟨S4, M4, r1, r2, r3, r4, r5, -⟩ := refJ b5 (f := 3) (by omega) (by omega)
          exact Or.inr ⟨S4, M4, fun K H => preC2 K (br_f w (r1 _ _ _ ⟨zb0, H⟩)), fun K H => preM2 K (br_f w (b_M_readFriend_63 (r2 _ _ _ (fri_68 r5.bad H)))), fc.tr r3.pc, fm.tr r4.pm, r5⟩
    · refine Or.inr ⟨S4, M4, fun K H => preC K (o1 _ (br_nf (nM1 (by omega)) (b1 _ ?_))), fun K H => preM K (b_M_readFriend_25 ?_), (a3.pc.tr b3.pc).tr u3.1.pc, (a4.pm.tr b4.pm).tr u3.2.1.pm, u3.2.2⟩
      · rw [s3]; exact u1 _ (br_nt rfl H)
      · rw [m3]; exact u2 _ (br_nf u3.2.2.bad.2 (fri_68 u3.2.2.bad H))
  · refine Or.inr ⟨S2, M2, fun K H => preC K (o1 _ (br_nt rfl H)), fun K H => e_M_readFriend (a2 _ ?_), a3.pc.tr o3.1.pc, a4.pm.tr o3.2.1.pm, o3.2.2⟩
    rw [m1]; exact o2 _ (br_nf o3.2.2.bad.2 (fri_25 o3.2.2.bad H))
end
end
