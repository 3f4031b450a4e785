section
variable {hc hm : xH} {d e : Nat} {S M : xSt}
abbrev kM : List Nat := [1, 5, 6, 15, 16, 17, 18, 19, 26, 27, 28, 29, 30, 31, 33, 34, 35, 42, 45, 46, 47, 48, 49, 50, 51]
abbrev kJ : List Nat := [1, 18, 21, 56, 57, 58, 59, 60, 61, 66, 69, 70, 85, 93, 94]
def FPc (S S' : xSt) : Prop := ∀ c, c < 18 ∨ 40 < c → S'.1 c = S.1 c
def FPm (M M' : xSt) : Prop := (∀ c, c ∈ kM → M'.1 c = M.1 c) ∧ ∀ j, j ∈ kJ → M'.1 0 j = M.1 0 j
def FZ (M M' : xSt) : Prop := FPm M M' ∧ M'.1 0 2 = M.1 0 2 ∧ M'.1 0 3 = M.1 0 3
theorem FPc.tr {S1 S2 S3 : xSt} (h : FPc S1 S2) (g : FPc S2 S3) : FPc S1 S3 := fun c a => (g c a).trans (h c a)
theorem FPm.tr {S1 S2 S3 : xSt} (h : FPm S1 S2) (g : FPm S2 S3) : FPm S1 S3 := ⟨fun c a => (g.1 c a).trans (h.1 c a), fun j a => (g.2 j a).trans (h.2 j a)⟩
theorem FZ.tr {S1 S2 S3 : xSt} (h : FZ S1 S2) (g : FZ S2 S3) : FZ S1 S3 := ⟨h.1.tr g.1, g.2.1.trans h.2.1, g.2.2.trans h.2.2⟩
theorem FZ.rf (M : xSt) : FZ M M := ⟨⟨fun _ _ => rfl, fun _ _ => rfl⟩, rfl, rfl⟩
theorem fT.pc {S' : xSt} (h : fT S S') : FPc S S' := fun c hc => h.1 c (by omega)
theorem fM.pm {M' : xSt} (h : fM M M') : FPm M M' := by
  have z1 : ∀ c, c ∈ kM → c ≠ 0 := by decide
  have z2 : ∀ j, j ∈ kJ → j < 2 ∨ 8 < j := by decide
  exact ⟨fun c hc => h.1 c (z1 c hc), fun j hj => h.2.2 j (z2 j hj)⟩
theorem FPc.put {c j : Nat} {v : Int32} (h : 18 ≤ c ∧ c ≤ 40) : FPc S (x_putI S c j v) := fun c' hc => gI_ne _ _ _ (by omega)
theorem FZ.put {c j : Nat} {v : Int32} (h : c ∉ kM) (h0 : c ≠ 0) : FZ M (x_putI M c j v) := ⟨⟨fun c' hc => gI_ne _ _ _ (fun z => h (z ▸ hc)), fun i _ => by rw [gI_ne _ _ _ (fun z => h0 z.symm)]⟩, by rw [gI_ne _ _ _ (fun z => h0 z.symm)], by rw [gI_ne _ _ _ (fun z => h0 z.symm)]⟩
theorem FZ.put0 {j : Nat} {v : Int32} (h : j ∉ kJ) (h2 : j ≠ 2) (h3 : j ≠ 3) : FZ M (x_putI M 0 j v) := by
  have z1 : ∀ c, c ∈ kM → c ≠ 0 := by decide
  exact ⟨⟨fun c hc => gI_ne _ _ _ (z1 c hc), fun i hi => by
    have ne : i ≠ j := fun z => h (by rw [← z]; exact hi)
    rw [gI_same, up_n _ _ ne]⟩, by rw [gI_same, up_n _ _ (fun z => h2 z.symm)], by rw [gI_same, up_n _ _ (fun z => h3 z.symm)]⟩
theorem FJ.z {M' : xSt} (h : FJ S M) (g : FZ M M') : FJ S M' := by
  obtain ⟨f, a, b, c, d, e⟩ := h
  exact ⟨f, a, b, c, by rw [g.2.1]; exact d, by rw [g.2.2]; exact e⟩
theorem FJ.s {S' : xSt} (h : FJ S M) (g : S'.1 19 = S.1 19) : FJ S' M := by
  obtain ⟨f, a, b, c, d, e⟩ := h
  exact ⟨f, a, b, by rw [g]; exact c, d, by rw [g]; exact e⟩
theorem Bad.z {M' : xSt} (h : Bad M) (g : FZ M M') : Bad M' := by unfold Bad; rw [g.2.1]; exact h
-- which lines were told once
def sN (a b c d : Bool) : Int32 := nI ((if a = true then 32768 else 0) + (if b = true then 65536 else 0) + (if c = true then 131072 else 0) + (if d = true then 262144 else 0))
def SN (s a b c d : Int32) : Prop := ∃ a' b' c' d' : Bool, s = sN a' b' c' d' ∧ a = mB a' ∧ b = mB b' ∧ c = mB c' ∧ d = mB d'
/-- the draft of both -/
def DR (nm nd nb nf hd st : Nat) (S M : xSt) : Prop :=
  RT nm nd nb nf hd st (S.1 21 0) (S.1 21 4) (S.1 21 6) (S.1 21 14) (S.1 21 17) (S.1 21 18) (S.1 22) (S.1 23) (S.1 24) (S.1 25) (S.1 26) (S.1 27) (S.1 28) (S.1 29) (S.1 30) (S.1 31) (S.1 32) (S.1 33) ∧
  RM nm nd nb (S.1 21 0) (S.1 21 4) (S.1 21 6) (S.1 21 14) (S.1 21 17) (S.1 21 18) (S.1 22) (S.1 23) (S.1 24) (S.1 25) (S.1 26) (S.1 27) (S.1 28) (S.1 29) (S.1 30) (S.1 31) (S.1 32) (S.1 33) (M.1 0 49) (M.1 0 50) (M.1 0 51) (M.1 0 52) (M.1 0 53) (M.1 0 54) (M.1 10) (M.1 11) (M.1 12) (M.1 13) (M.1 14) (M.1 20) (M.1 21) (M.1 22) (M.1 23) (M.1 24) (M.1 25) (M.1 32) ∧
  RW (S.1 34 1) (S.1 34 3) (S.1 35) (M.1 0 62) (M.1 0 17) (M.1 0 20) (M.1 3) (M.1 4) ∧
  (∀ i j, i < 6 → j < 6 → nm ≤ i ∨ nm ≤ j → S.1 33 (6 * i + j) = -100) ∧
  (NRel 38 0 nm S M ∧ NRel 39 6 nd S M ∧ NRel 40 12 nb S M) ∧ SN (S.1 18 6) (M.1 0 62) (M.1 0 63) (M.1 0 64) (M.1 0 65) ∧ (M.1 0 55 = S.1 21 19 ∧ (M.1 0 62 = 0 → S.1 34 3 = 0))
theorem DR.fr {nm nd nb nf hd st : Nat} {S' M' : xSt} (h : DR nm nd nb nf hd st S M) (f : fT S S') (g : fM M M') : DR nm nd nb nf hd st S' M' := by
  obtain ⟨a, b, c, w, ⟨n1, n2, n3⟩, s, r⟩ := h
  refine ⟨?_, ?_, ?_, ?_, ⟨?_, ?_, ?_⟩, ?_, ?_⟩
  · rw [f.1 21 (by decide), f.1 22 (by decide), f.1 23 (by decide), f.1 24 (by decide), f.1 25 (by decide), f.1 26 (by decide), f.1 27 (by decide), f.1 28 (by decide), f.1 29 (by decide), f.1 30 (by decide), f.1 31 (by decide), f.1 32 (by decide), f.1 33 (by decide)]; exact a
  · rw [f.1 21 (by decide), f.1 22 (by decide), f.1 23 (by decide), f.1 24 (by decide), f.1 25 (by decide), f.1 26 (by decide), f.1 27 (by decide), f.1 28 (by decide), f.1 29 (by decide), f.1 30 (by decide), f.1 31 (by decide), f.1 32 (by decide), f.1 33 (by decide), g.2.2 49 (by decide), g.2.2 50 (by decide), g.2.2 51 (by decide), g.2.2 52 (by decide), g.2.2 53 (by decide), g.2.2 54 (by decide), g.1 10 (by decide), g.1 11 (by decide), g.1 12 (by decide), g.1 13 (by decide), g.1 14 (by decide), g.1 20 (by decide), g.1 21 (by decide), g.1 22 (by decide), g.1 23 (by decide), g.1 24 (by decide), g.1 25 (by decide), g.1 32 (by decide)]; exact b
  · rw [f.1 34 (by decide), f.1 35 (by decide), g.2.2 62 (by decide), g.2.2 17 (by decide), g.2.2 20 (by decide), g.1 3 (by decide), g.1 4 (by decide)]; exact c
  · rw [f.1 33 (by decide)]; exact w
  · exact n1.fr (fun i _ => by rw [f.2.1 38 (by decide)]) (fun i _ => by rw [g.2.1 2 (by decide)])
  · exact n2.fr (fun i _ => by rw [f.2.1 39 (by decide)]) (fun i _ => by rw [g.2.1 2 (by decide)])
  · exact n3.fr (fun i _ => by rw [f.2.1 40 (by decide)]) (fun i _ => by rw [g.2.1 2 (by decide)])
  · rw [f.1 18 (by decide), g.2.2 62 (by decide), g.2.2 63 (by decide), g.2.2 64 (by decide), g.2.2 65 (by decide)]; exact s
  · rw [f.1 21 (by decide), f.1 34 (by decide), g.2.2 55 (by decide), g.2.2 62 (by decide)]; exact r
/-- a line: both read it, or both find the same fault -/
def LJ (t : Nat → Nat) (n b : Nat) (P : (Int32 → xSt → Prop) → Prop) (Q : (xSt → Prop) → Prop) (S M : xSt) : Prop :=
  (∃ S' M', (∀ K, K 1 S' → P K) ∧ (∀ K, K M' → Q K) ∧ FPc S S' ∧ FPm M M' ∧ (∃ k v l q p, QJ t n k v l q p S' M' ∧ b ≤ q ∧ k ≤ 5) ∧ ∃ nm nd nb nf hd st, DR nm nd nb nf hd st S' M') ∨ (∃ S' M', (∀ K, K 0 S' → P K) ∧ (∀ K, K M' → Q K) ∧ FPc S S' ∧ FPm M M' ∧ FJ S' M')
section
variable {t : Nat → Nat} {n k v q p nm nd nb nf hd st : Nat} {l : List Nat}
theorem gap_i {i j nm : Nat} : 6 * i + j = 6 * i + j := rfl
theorem r_man101 {x : Nat} (hx : x < 6) : ∃ M', (∀ K, ((¬ M'.1 0 2 = 0 → K M') ∧ (M'.1 0 2 = 0 → K (x_putI M' 0 49 (M'.1 0 49 + 1)))) → B_M_readMan_99 hm e (nI x) M K) ∧ (∀ c, c ≠ 14 → M'.1 c = M.1 c) ∧ M'.2 = M.2 ∧ ∀ i j, i < 6 → j < 6 → M'.1 14 (6 * i + j) = if i = x ∨ j = x then -100 else M.1 14 (6 * i + j) := by
  have go : ∀ k o, o + k = 6 → ∀ M0, ∃ M', (∀ K, ((¬ M'.1 0 2 = 0 → K M') ∧ (M'.1 0 2 = 0 → K (x_putI M' 0 49 (M'.1 0 49 + 1)))) → B_M_readMan_101 hm e (nI x) (nI o) M0 K) ∧ (∀ c, c ≠ 14 → M'.1 c = M0.1 c) ∧ M'.2 = M0.2 ∧ ∀ i j, i < 6 → j < 6 → M'.1 14 (6 * i + j) = if (i = x ∧ o ≤ j) ∨ (j = x ∧ o ≤ i) then -100 else M0.1 14 (6 * i + j) := by
    intro k
    induction k with
    | zero =>
      intro o ho M0
      refine ⟨M0, fun K H => b_M_readMan_101 (br_t (by rw [show o = 6 by omega]; decide) H), fun _ _ => rfl, rfl, fun i j hi hj => by rw [if_neg (by omega)]⟩
    | succ k ih =>
      intro o ho M0
      obtain ⟨M', a, b, c, g⟩ := ih (o + 1) (by omega) (x_putI (x_putI M0 14 (6 * x + o) (-100)) 14 (6 * o + x) (-100))
      have e1 : (6 : Int32) * nI x + nI o = nI (6 * x + o) := by rw [show (6 : Int32) = nI 6 from rfl, pk_mul, nI_add]
      have e2 : (6 : Int32) * nI o + nI x = nI (6 * o + x) := by rw [show (6 : Int32) = nI 6 from rfl, pk_mul, nI_add]
      refine ⟨M', fun K H => b_M_readMan_101 (br_f (nI_ge (b := 6) (by omega) (by omega)) ?_), fun c' h' => ?_, c, fun i j hi hj => ?_⟩
      · rw [e1, e2, nCl (by omega), nCl (by omega), nI_1]
        exact ⟨vIn (by omega) (by omega), vIn (by omega) (by omega), a K H⟩
      · rw [b c' h', gI_ne _ _ _ h', gI_ne _ _ _ h']
      · rw [g i j hi hj, gI_same, gI_same]
        by_cases y : (i = x ∧ o ≤ j) ∨ (j = x ∧ o ≤ i)
        · rw [if_pos y]
          by_cases z : (i = x ∧ o + 1 ≤ j) ∨ (j = x ∧ o + 1 ≤ i)
          · rw [if_pos z]
          · rw [if_neg z]
            by_cases w : 6 * i + j = 6 * o + x
            · rw [w, up_s]
            · rw [up_n _ _ w, show 6 * i + j = 6 * x + o by omega, up_s]
        · rw [if_neg y, if_neg (by omega), up_n _ _ (by omega), up_n _ _ (by omega)]
  obtain ⟨M', a, b, c, g⟩ := go 6 0 (by omega) M
  refine ⟨M', fun K H => b_M_readMan_99 (a K H), b, c, fun i j hi hj => ?_⟩
  rw [g i j hi hj]
  by_cases y : i = x ∨ j = x
  · rw [if_pos y, if_pos (by omega)]
  · rw [if_neg y, if_neg (by omega)]
/-- behind a fault, the rest of a man's line -/
theorem man_t3 {x : Nat} (hx : x < 6) (hb : Bad M) : ∃ M', FZ M M' ∧ ∀ K, K M' → B_M_readMan_73 hm e (nI x) (nI x) M K := by
  obtain ⟨M', a, b, c, g⟩ := r_man101 (hm := hm) (e := e) (M := x_putI M 12 x 0) hx
  have f1 : FZ M (x_putI M 12 x 0) := FZ.put (by decide) (by decide)
  have f2 : FZ (x_putI M 12 x 0) M' := by
    have z1 : ∀ c, c ∈ kM → c ≠ 14 := by decide
    exact ⟨⟨fun c hc => b c (z1 c hc), fun j _ => by rw [b 0 (by decide)]⟩, by rw [b 0 (by decide)], by rw [b 0 (by decide)]⟩
  have hb' : Bad M' := hb.z (f1.tr f2)
  refine ⟨M', f1.tr f2, fun K H => b_M_readMan_73 (b_M_readMan_74 (truth0 ⟨vIn (by omega) (by omega), br_nf hb.2 ?_⟩))⟩
  rw [nCl (by omega)]
  exact a K (br_nf hb'.2 H)
theorem man_t2 {x : Nat} (hx : x < 6) {r : Int32} (hb : Bad M) : ∃ M', FZ M M' ∧ ∀ K, K M' → M_M_option hm e 448545973619 1 4 2 (x_putI M 10 x r) (fun (r3) (S3) => (vp_in (nI x) 6 ∧ ((¬ (S3.1 0 2) = 0 → B_M_readMan_73 hm e (nI x) (nI x) (x_putI S3 11 ((nI x)).toNatClampNeg r3) K) ∧ ((S3.1 0 2) = 0 → M_M_isWord hm (e + 4) 1818584692 (x_putI S3 11 ((nI x)).toNatClampNeg r3) (fun (r4) (S4) => ((r4 = 0 → B_M_readMan_73 hm e (nI x) (nI x) S4 K) ∧ (¬ r4 = 0 → B_M_readMan_74 hm e (nI x) 1 (nI x) S4 K))))))) := by
  have f1 : FZ M (x_putI M 10 x r) := FZ.put (by decide) (by decide)
  have f2 : FZ (x_putI M 10 x r) (x_putI (x_putI M 10 x r) 11 x 2) := FZ.put (by decide) (by decide)
  obtain ⟨M', g1, g2⟩ := man_t3 (hm := hm) (e := e) hx (hb.z (f1.tr f2))
  refine ⟨M', (f1.tr f2).tr g1, fun K H => opt_f (hb.z f1) ⟨vIn (by omega) (by omega), br_nf (hb.z f1).2 ?_⟩⟩
  rw [nCl (by omega)]
  exact g2 K H
theorem DR_man {S' M' : xSt} (h : DR nm nd nb nf hd st S M) (hm6 : nm < 6) {a b c : Nat} (ha : a ≤ 9) (hb : 1 ≤ b ∧ b ≤ 4) (hc' : c ≤ 1)
    (s1 : ∀ c, c ≠ 19 → c ≠ 21 → c ≠ 22 → c ≠ 23 → c ≠ 24 → S'.1 c = S.1 c) (s2 : ∀ j, j ≠ 0 → S'.1 21 j = S.1 21 j) (s3 : S'.1 21 0 = nI (nm + 1)) (s4 : S'.1 22 = upd (S.1 22) nm (nI a)) (s5 : S'.1 23 = upd (S.1 23) nm (nI b)) (s6 : ∀ i, S'.1 24 i = if i = nm then nI c else S.1 24 i)
    (m1 : ∀ c, c ≠ 0 → c ≠ 10 → c ≠ 11 → c ≠ 12 → c ≠ 14 → M'.1 c = M.1 c) (m2 : ∀ j, j < 2 ∨ 8 < j → j ≠ 49 → M'.1 0 j = M.1 0 j) (m3 : M'.1 0 49 = nI (nm + 1)) (m4 : M'.1 10 = upd (M.1 10) nm (nI a)) (m5 : M'.1 11 = upd (M.1 11) nm (nI b)) (m6 : M'.1 12 = upd (M.1 12) nm (nI c)) (m7 : ∀ i j, i < 6 → j < 6 → M'.1 14 (6 * i + j) = if i = nm ∨ j = nm then -100 else M.1 14 (6 * i + j))
    (n1 : NRel 38 0 (nm + 1) S' M') (n2 : NRel 39 6 nd S' M') (n3 : NRel 40 12 nb S' M') : DR (nm + 1) nd nb nf hd st S' M' := by
  obtain ⟨⟨t1, t2, t3, t4, t5, t6, t7, t8, t9, t10, t11⟩, ⟨⟨r1, r2, r3, r4, r5, r6⟩, r7, r8, r9, r10⟩, w, o, -, sn, dr⟩ := h
  refine ⟨⟨⟨s3, by omega⟩, ?_, ?_, ?_, ?_, ?_, fun m hm' => ?_, ?_, fun b' hb' => ?_, ?_, ?_⟩, ⟨⟨?_, ?_, ?_, ?_, ?_, ?_⟩, fun m hm' => ?_, ?_, ?_, fun i j hi hj => ?_⟩, ?_, fun i j hi hj hij => ?_, ⟨n1, n2, n3⟩, ?_, ?_⟩
  · rw [s2 4 (by decide)]; exact t2
  · rw [s2 6 (by decide)]; exact t3
  · rw [s2 14 (by decide)]; exact t4
  · rw [s2 17 (by decide)]; exact t5
  · rw [s2 18 (by decide)]; exact t6
  · rw [s4, s5, s6 m]
    by_cases y : m = nm
    · rw [y, up_s, up_s, if_pos rfl]; exact ⟨⟨a, ha, rfl⟩, ⟨b, hb.1, hb.2, rfl⟩, ⟨c, hc', rfl⟩⟩
    · rw [up_n _ _ y, up_n _ _ y, if_neg y]; exact t7 m (by omega)
  · rw [s1 25 (by decide) (by decide) (by decide) (by decide) (by decide)]; exact t8
  · rw [s1 26 (by decide) (by decide) (by decide) (by decide) (by decide), s1 27 (by decide) (by decide) (by decide) (by decide) (by decide), s1 28 (by decide) (by decide) (by decide) (by decide) (by decide), s1 29 (by decide) (by decide) (by decide) (by decide) (by decide), s1 30 (by decide) (by decide) (by decide) (by decide) (by decide), s1 31 (by decide) (by decide) (by decide) (by decide) (by decide), s1 32 (by decide) (by decide) (by decide) (by decide) (by decide)]
    obtain ⟨⟨k1, g1, g2⟩, ⟨k2, g3, g4⟩, g5⟩ := t9 b' hb'
    exact ⟨⟨k1, by omega, g2⟩, ⟨k2, by omega, g4⟩, g5⟩
  · rw [s1 33 (by decide) (by decide) (by decide) (by decide) (by decide)]; exact t10
  · rw [s1 33 (by decide) (by decide) (by decide) (by decide) (by decide)]; exact t11
  · rw [m3, s3]
  · rw [m2 50 (by decide) (by decide), s2 4 (by decide)]; exact r2
  · rw [m2 51 (by decide) (by decide), s2 6 (by decide)]; exact r3
  · rw [m2 52 (by decide) (by decide), s2 14 (by decide)]; exact r4
  · rw [m2 53 (by decide) (by decide), s2 17 (by decide)]; exact r5
  · rw [m2 54 (by decide) (by decide), s2 18 (by decide)]; exact r6
  · rw [m4, m5, m6, s4, s5, s6 m]
    by_cases y : m = nm
    · rw [y, up_s, up_s, up_s, up_s, up_s, if_pos rfl]; exact ⟨rfl, rfl, rfl⟩
    · rw [up_n _ _ y, up_n _ _ y, up_n _ _ y, up_n _ _ y, up_n _ _ y, if_neg y]; exact r7 m (by omega)
  · rw [m1 13 (by decide) (by decide) (by decide) (by decide) (by decide), s1 25 (by decide) (by decide) (by decide) (by decide) (by decide)]; exact r8
  · rw [m1 20 (by decide) (by decide) (by decide) (by decide) (by decide), m1 21 (by decide) (by decide) (by decide) (by decide) (by decide), m1 22 (by decide) (by decide) (by decide) (by decide) (by decide), m1 23 (by decide) (by decide) (by decide) (by decide) (by decide), m1 24 (by decide) (by decide) (by decide) (by decide) (by decide), m1 25 (by decide) (by decide) (by decide) (by decide) (by decide), m1 32 (by decide) (by decide) (by decide) (by decide) (by decide), s1 26 (by decide) (by decide) (by decide) (by decide) (by decide), s1 27 (by decide) (by decide) (by decide) (by decide) (by decide), s1 28 (by decide) (by decide) (by decide) (by decide) (by decide), s1 29 (by decide) (by decide) (by decide) (by decide) (by decide), s1 30 (by decide) (by decide) (by decide) (by decide) (by decide), s1 31 (by decide) (by decide) (by decide) (by decide) (by decide), s1 32 (by decide) (by decide) (by decide) (by decide) (by decide)]; exact r9
  · rw [m7 i j (by omega) (by omega), s1 33 (by decide) (by decide) (by decide) (by decide) (by decide)]
    by_cases y : i = nm ∨ j = nm
    · rw [if_pos y, o i j (by omega) (by omega) (by omega)]
    · rw [if_neg y]; exact r10 i j (by omega) (by omega)
  · rw [s1 34 (by decide) (by decide) (by decide) (by decide) (by decide), s1 35 (by decide) (by decide) (by decide) (by decide) (by decide), m2 62 (by decide) (by decide), m2 17 (by decide) (by decide), m2 20 (by decide) (by decide), m1 3 (by decide) (by decide) (by decide) (by decide) (by decide), m1 4 (by decide) (by decide) (by decide) (by decide) (by decide)]; exact w
  · rw [s1 33 (by decide) (by decide) (by decide) (by decide) (by decide)]; exact o i j hi hj (by omega)
  · rw [s1 18 (by decide) (by decide) (by decide) (by decide) (by decide), m2 62 (by decide) (by decide), m2 63 (by decide) (by decide), m2 64 (by decide) (by decide), m2 65 (by decide) (by decide)]; exact sn
  · rw [m2 55 (by decide) (by decide), m2 62 (by decide) (by decide), s2 19 (by decide), s1 34 (by decide) (by decide) (by decide) (by decide) (by decide)]; exact dr
end
end
