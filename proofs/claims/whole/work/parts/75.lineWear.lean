section
variable {hc hm : xH} {d e : Nat} {S M : xSt}
section
variable {t : Nat → Nat} {n k v q p nm nd nb nf hd st : Nat} {l : List Nat}
theorem GM.pm {M' : xSt} (h : GM M M') : FPm M M' := by
  have z1 : ∀ c, c ∈ kM → c ∉ [0, 3, 4, 7] := by decide
  have z2 : ∀ j, j ∈ kJ → (j < 2 ∨ 8 < j) ∧ j ∉ [17, 19, 20, 22, 23] := by decide
  exact ⟨fun c hc => h.1 c (z1 c hc), fun j hj => h.2.1 j (z2 j hj).1 (z2 j hj).2⟩
theorem GC.pc {S' : xSt} (h : GC S S') : FPc S S' := fun c hc => h.1 c (by omega) (by omega) (by omega)
theorem DR_wear {S' M' : xSt} (h : DR nm nd nb nf hd st S M) (s1 : ∀ c, c ≠ 18 → c ≠ 19 → c ≠ 34 → c ≠ 35 → S'.1 c = S.1 c) (s5 : ∀ c, c ≠ 19 → S'.2.1 c = S.2.1 c)
    (m1 : ∀ c, c ∉ [0, 3, 4, 7] → M'.1 c = M.1 c) (m2 : ∀ j, 48 < j → j < 56 → M'.1 0 j = M.1 0 j) (m6 : ∀ c, c ≠ 0 → M'.2.1 c = M.2.1 c) (sn : SN (S'.1 18 6) (M'.1 0 62) (M'.1 0 63) (M'.1 0 64) (M'.1 0 65)) (w : RW (S'.1 34 1) (S'.1 34 3) (S'.1 35) (M'.1 0 62) (M'.1 0 17) (M'.1 0 20) (M'.1 3) (M'.1 4)) (m62 : ¬ M'.1 0 62 = 0) : DR nm nd nb nf hd st S' M' := by
  obtain ⟨⟨t1, t2, t3, t4, t5, t6, t7, t8, t9, t10, t11⟩, ⟨⟨r1, r2, r3, r4, r5, r6⟩, r7, r8, r9, r10⟩, -, o, ⟨n1, n2, n3⟩, -, dr⟩ := h
  have f : ∀ c, 21 ≤ c → c < 34 → S'.1 c = S.1 c := fun c h1 h2 => s1 c (by omega) (by omega) (by omega) (by omega)
  refine ⟨⟨?_, ?_, ?_, ?_, ?_, ?_, ?_, ?_, ?_, ?_, ?_⟩, ⟨⟨?_, ?_, ?_, ?_, ?_, ?_⟩, ?_, ?_, ?_, ?_⟩, w, ?_, ⟨?_, ?_, ?_⟩, sn, ?_, fun z => absurd z m62⟩
  · rw [f 21 (by decide) (by decide)]; exact t1
  · rw [f 21 (by decide) (by decide)]; exact t2
  · rw [f 21 (by decide) (by decide)]; exact t3
  · rw [f 21 (by decide) (by decide)]; exact t4
  · rw [f 21 (by decide) (by decide)]; exact t5
  · rw [f 21 (by decide) (by decide)]; exact t6
  · rw [f 22 (by decide) (by decide), f 23 (by decide) (by decide), f 24 (by decide) (by decide)]; exact t7
  · rw [f 25 (by decide) (by decide)]; exact t8
  · rw [f 26 (by decide) (by decide), f 27 (by decide) (by decide), f 28 (by decide) (by decide), f 29 (by decide) (by decide), f 30 (by decide) (by decide), f 31 (by decide) (by decide), f 32 (by decide) (by decide)]; exact t9
  · rw [f 33 (by decide) (by decide)]; exact t10
  · rw [f 33 (by decide) (by decide)]; exact t11
  · rw [m2 49 (by decide) (by decide), f 21 (by decide) (by decide)]; exact r1
  · rw [m2 50 (by decide) (by decide), f 21 (by decide) (by decide)]; exact r2
  · rw [m2 51 (by decide) (by decide), f 21 (by decide) (by decide)]; exact r3
  · rw [m2 52 (by decide) (by decide), f 21 (by decide) (by decide)]; exact r4
  · rw [m2 53 (by decide) (by decide), f 21 (by decide) (by decide)]; exact r5
  · rw [m2 54 (by decide) (by decide), f 21 (by decide) (by decide)]; exact r6
  · rw [f 22 (by decide) (by decide), f 23 (by decide) (by decide), f 24 (by decide) (by decide), m1 10 (by decide), m1 11 (by decide), m1 12 (by decide)]; exact r7
  · rw [f 25 (by decide) (by decide), m1 13 (by decide)]; exact r8
  · rw [f 26 (by decide) (by decide), f 27 (by decide) (by decide), f 28 (by decide) (by decide), f 29 (by decide) (by decide), f 30 (by decide) (by decide), f 31 (by decide) (by decide), f 32 (by decide) (by decide), m1 20 (by decide), m1 21 (by decide), m1 22 (by decide), m1 23 (by decide), m1 24 (by decide), m1 25 (by decide), m1 32 (by decide)]; exact r9
  · rw [f 33 (by decide) (by decide), m1 14 (by decide)]; exact r10
  · rw [f 33 (by decide) (by decide)]; exact o
  · exact n1.fr (fun i _ => by rw [s5 38 (by decide)]) (fun i _ => by rw [m6 2 (by decide)])
  · exact n2.fr (fun i _ => by rw [s5 39 (by decide)]) (fun i _ => by rw [m6 2 (by decide)])
  · exact n3.fr (fun i _ => by rw [s5 40 (by decide)]) (fun i _ => by rw [m6 2 (by decide)])
  · rw [m2 55 (by decide) (by decide), f 21 (by decide) (by decide)]; exact dr.1
def wearC (hc : xH) (d : Nat) (S : xSt) (K : Int32 → xSt → Prop) : Prop := ∀ A0 A1 : xSt → Prop, (∀ s, K 0 s → A0 s) → (∀ s, K 1 s → A1 s) → M_Rd_opensOnce hc (d + 67) S (fun (r17) (S17) => ((r17 = 0 → A0 S17) ∧ (¬ r17 = 0 → M_Fr_readFormula hc d S17 (fun (r18) (S18) => ((r18 = 0 → A0 S18) ∧ (¬ r18 = 0 → A1 S18))))))
theorem lineWear (h : QJ t n 3 15 l q p S M) (hD : DR nm nd nb nf hd st S M) (h0 : M.1 0 62 = 0) : LJ t n p (wearC hc d S) (M_M_readWear hm e (x_putI M 0 62 1)) S M := by
  obtain ⟨a1, b1, c1, d1, x1, x2, x3, x4, x5⟩ := hD.2.2.2.2.2.1
  have tv : S.1 19 5 = nI 15 := ((tk_word h.1.2.2.2.2.2.1 (w := 15) (by omega)).1.mpr ⟨rfl, rfl⟩).2
  have z0 : a1 = false := (mB0 _).mp (x2.symm.trans h0)
  have tb := (sN_t a1 b1 c1 d1).1
  have to := (sN_o a1 b1 c1 d1).1
  have hq : QJ t n 3 15 l q p (x_putI S 18 6 (S.1 18 6 ||| oneAt (nI 15))) (x_putI M 0 62 1) := h.fr rfl rfl rfl rfl rfl (fun j h1 h2 => by rw [gI_same, up_n _ _ (by omega)]) rfl
  obtain ⟨S1, M1, k1, v1, l1, q1, p1, r1, r2, r3, r4, r5, r6, r7⟩ := advJ (hc := hc) (d := d + 67) (hm := hm) (e := e + 2) hq (by omega)
  have preC : ∀ A0 A1 : xSt → Prop, M_Fr_readFormula hc d S1 (fun (r18) (S18) => ((r18 = 0 → A0 S18) ∧ (¬ r18 = 0 → A1 S18))) → M_Rd_opensOnce hc (d + 67) S (fun (r17) (S17) => ((r17 = 0 → A0 S17) ∧ (¬ r17 = 0 → M_Fr_readFormula hc d S17 (fun (r18) (S18) => ((r18 = 0 → A0 S18) ∧ (¬ r18 = 0 → A1 S18)))))) := by
    intro A0 A1 H
    refine e_Rd_opensOnce ?_
    rw [tv]
    refine br_t ?_ (r1 _ (br_f (by decide) H))
    rw [x1]; exact tb.mpr z0
  have z2 : ZM M1 (x_putI (x_putI (x_putI (x_putI M1 0 17 0) 0 19 0) 0 23 0) 0 22 0) := (((ZM.p0 (by decide)).tr (ZM.p0 (by decide))).tr (ZM.p0 (by decide))).tr (ZM.p0 (by decide))
  have preM : ∀ K, UJ hm e (x_putI (x_putI (x_putI (x_putI M1 0 17 0) 0 19 0) 0 23 0) 0 22 0) K → M_M_readWear hm e (x_putI M 0 62 1) K := fun K H => e_M_readWear (r2 _ (e_M_unit (H _ (fun _ w => w))))
  have fz : FZ M (x_putI M 0 62 1) := FZ.put0 (by decide) (by decide) (by decide)
  -- nothing told yet
  obtain ⟨n0, w1, w2, w3, w4, w5, w6⟩ := hD.2.2.1
  have n00 : n0 = 0 := by
    rw [h0] at w4
    by_cases y : n0 = 0
    · exact y
    · rw [if_neg y] at w4; exact absurd w4 (by decide)
  have s343 : S.1 34 3 = 0 := hD.2.2.2.2.2.2.2 h0
  have C1 : FC [] 0 S1 := by
    refine ⟨?_, fun i c hi => absurd hi (by simp), ?_⟩
    · rw [r3.1 34 (by decide)]
      show S.1 34 1 = _
      rw [w2, n00]; rfl
    · rw [r3.1 34 (by decide)]
      show S.1 34 3 = _
      rw [s343]; rfl
  have F1 : FM [] [] 0 0 (x_putI (x_putI (x_putI (x_putI M1 0 17 0) 0 19 0) 0 23 0) 0 22 0) := by
    refine ⟨?_, fun i c hi => absurd hi (by simp), ?_, ?_, ?_, trivial, ?_, fun o ho => absurd ho (by simp)⟩
    · rw [gI_same, up_n _ _ (by decide), gI_same, up_n _ _ (by decide), gI_same, up_n _ _ (by decide), gI_same, up_s]; rfl
    · rw [gI_same, up_n _ _ (by decide), gI_same, up_n _ _ (by decide), gI_same, up_n _ _ (by decide), gI_same, up_n _ _ (by decide), r4.2.2 20 (by decide), gI_same, up_n _ _ (by decide), w5, s343]; rfl
    · rw [gI_same, up_s]; rfl
    · rw [gI_same, up_n _ _ (by decide), gI_same, up_n _ _ (by decide), gI_same, up_s]; rfl
    · rw [gI_same, up_n _ _ (by decide), gI_same, up_s]; rfl
  have pcS1 : FPc S S1 := (FPc.put (by omega)).tr r3.pc
  have gm2 : GM (x_putI M 0 62 1) (x_putI (x_putI (x_putI (x_putI M1 0 17 0) 0 19 0) 0 23 0) 0 22 0) := r4.g.tr z2.g
  rcases (formJ (hc := hc) (hm := hm) (e := e) (t := t) (n := n) 7 0 rfl).2 (d + 64) k1 v1 l1 q1 p1 S1 _ [] [] 0 (by omega) (r5.zm z2) r7 C1 F1 (by omega) (by simp) (by simp) (fun o s' he => absurd he (by simp)) (fun z => absurd z (by omega)) with ⟨S4, M4, k4, v4, pend, u4, g1, g2, g3, g4, ⟨l4, q4, p4, w, os, y1, y2, y3, y4, y5, y6, y7, y8, y9, y10, y11, y12, y13⟩, g6⟩ | ⟨S4, M4, g1, g2, g3, g4, g5⟩
  · have f4 := y1.2.f0
    rw [List.nil_append] at y4 y6
    rw [List.append_nil] at y5 y10
    have hco : w.length = os.length + pend.length := by rw [y6]; simp
    have n20 : 20 ∉ pend := fun z => (okp_b (y11 20 z).1).1 rfl
    have hF' : FM os (pend ++ []) (0 + nots pend) u4 M4 := by rw [List.append_nil]; exact y5
    obtain ⟨M5, a1', a2, a3⟩ := closeM (hm := hm) (e := e + 2) (r := 0) (u := u4) (by omega) (s := []) (fun o s' he => absurd he (by simp)) pend os 0 M4 hF' (fun o ho => ⟨(y11 o ho).1, by omega⟩) (by omega) (by simp; omega) (by omega)
    rw [← y6] at a2
    have w00 := y13 0 (by omega)
    have wne : ¬ w.length = 0 := fun z => by
      have : w = [] := List.length_eq_zero_iff.mp z
      rw [this] at w00
      exact absurd w00 (by simp [wf])
    have m62 : M5.1 0 62 = 1 := by
      rw [a3.2.1 62 (by decide), g4.2.1 62 (by decide) (by decide), gm2.2.1 62 (by decide) (by decide), gI_same, up_s]
    have m3x : ∀ j, 48 < j → j ≠ 62 → M5.1 0 j = M.1 0 j := fun j h1 h2 => by
      have zj : j ∉ [17, 19, 20, 22, 23] := fun hj => by simp only [List.mem_cons, List.mem_nil_iff, or_false] at hj; omega
      rw [a3.2.1 j zj, g4.2.1 j (by omega) zj, gm2.2.1 j (by omega) zj, gI_same, up_n _ _ h2]
    refine Or.inl ⟨S4, M5, fun K H A0 A1 i0 i1 => preC A0 A1 (e_Fr_readFormula (g1 _ ⟨zb1, br_f (by decide) (i1 _ H)⟩)), fun K H => preM K (g2 K (exitJ y1 y5 (by omega) (Or.inr n20) ?_ (b_M_readWear_157 (br_nt f4.2 (brkM (st := pend) (by omega) y5.2.2.2.2.1 y5.2.2.2.2.2.1 y5.2.2.2.2.2.2.2 ?_))))), pcS1.tr g3.pc, fz.1.tr ((gm2.tr g4).tr a3.g).pm, ⟨k4, v4, l4, q4, p4, y1.zm a3, by omega, y3⟩, nm, nd, nb, nf, hd, st, ?_⟩
    · rcases g6 with g6 | g6 | g6
      · exact Or.inl g6
      · have := tt_b (sgn k4 v4); omega
      · exact Or.inr g6
    · rw [if_neg n20]
      exact br_t rfl (b_M_readWear_176 (br_nt f4.2 (e_M_close (a1' _ H))))
    · refine DR_wear hD (fun c h1 h2 h3 h4 => ?_) (fun c h1 => ?_) (fun c h1 => ?_) (fun j h1 h2 => m3x j h1 (by omega)) (fun c h1 => ?_) ?_ ?_ (by rw [m62]; decide)
      · rw [g3.1 c h2 h3 h4, r3.1 c h2, gI_ne _ _ _ h1]
      · rw [g3.2 c h1, r3.2.1 c h1]; rfl
      · rw [a3.1 c h1, g4.1 c h1, gm2.1 c h1, gI_ne _ _ _ (fun z => h1 (by rw [z]; decide))]
      · rw [a3.2.2, g4.2.2 c h1, gm2.2.2 c h1]; rfl
      · refine ⟨true, b1, c1, d1, ?_, by rw [m62]; rfl, by rw [m3x 63 (by omega) (by omega)]; exact x3, by rw [m3x 64 (by omega) (by omega)]; exact x4, by rw [m3x 65 (by omega) (by omega)]; exact x5⟩
        rw [g3.1 18 (by decide) (by decide) (by decide), r3.1 18 (by decide), gI_same, up_s, x1]
        exact to
      · obtain ⟨q1', q2', q3', q4', q5', q6', q7', q8'⟩ := a2
        refine ⟨w.length, by omega, y4.1, q1', by rw [m62, if_neg wne], by rw [q3', y4.2.2], fun k hk => ?_⟩
        obtain ⟨c, hc'⟩ : ∃ c, w[k]? = some c := ⟨w[k], by simp [hk]⟩
        refine ⟨?_, wf_ok (code := S4.1 35) w [] 0 (by omega) w00 q2' rfl k (by simp) (by simpa using hk)⟩
        rw [y4.2.1 k c hc']
        exact q2' k c hc'
  · exact Or.inr ⟨S4, M4, fun K H A0 A1 i0 i1 => preC A0 A1 (e_Fr_readFormula (g1 _ ⟨zb0, br_t rfl (i0 _ H)⟩)), fun K H => preM K (g2 K H), pcS1.tr g3.pc, fz.1.tr (gm2.tr g4).pm, g5⟩
end
end
