section
variable {hc hm : xH} {d e : Nat} {S M : xSt}
section
variable {S0 : xSt} {nd nb hd D : Nat} {hr : Nat → Nat} {x : Int32}
theorem fol_ok {fb : Nat → Nat → Bool} {g : Nat → Nat → Nat} {V : oT → Int} : ∀ n c, oOK nd c → oOK nd (fol nd hr fb g V n c) := by
  intro n
  induction n with
  | zero => intro c hc; exact hc
  | succ n ih =>
    intro c hc
    rw [fol]
    by_cases z : V c ≤ 0
    · rw [if_pos z]; exact hc
    · rw [if_neg z]
      cases e : fm nd hr fb g V c nd with
      | none => exact hc
      | some d0 =>
        obtain ⟨a, b⟩ := fm_al nd (Nat.le_refl _) d0 e
        exact ih _ (hc.push a b.1)
theorem oB_ok (h : BK S0 nd nb hd D hr x S) : oOK nd (oB S0 nd nb hd D hr x) := by
  rw [← fol_b h]; exact fol_ok nd oZ oZ_ok
theorem kp_n (hnb : nb ≤ 10) (o : oT) : ∃ k, k < 1024 ∧ oKp (kvS S0 nb x D hd) hr o.2 o.1 = nI k := bits10 (fun i hi h10 => by
  cases q : bt (oKp (kvS S0 nb x D hd) hr o.2 o.1) i with
  | false => rfl
  | true => have := (bt_kp hnb hi o.1 q).1; omega)
/-- how many the best order keeps -/
def gB (S0 : xSt) (nd nb hd : Nat) (hr : Nat → Nat) (x : Int32) (D : Nat) : Nat := pcI (oKp (kvS S0 nb x D hd) hr (oB S0 nd nb hd D hr x).2 (oB S0 nd nb hd D hr x).1)
theorem gB_le : gB S0 nd nb hd hr x D ≤ 10 := pcI_le _
theorem m_mostKept (hT : CT S0 nd nb hd hr) (hC : CO S0 nd nb hr x S) {K : Int32 → xSt → Prop} (H : ∀ S', CO S0 nd nb hr x S' → K (nI (gB S0 nd nb hd hr x D)) S') : M_Or_mostKept hc d (nI D) S K := by
  refine e_Or_mostKept (m_findBest hT hC (fun S' c1 c2 c3 => ?_))
  have h : BK S0 nd nb hd D hr x S' := ⟨c1, c2, c3⟩
  have hnd := hT.1.2
  have hb := oB_ok h
  have hv := val_b h
  have hg := pc_kp (S0 := S0) (x := x) (D := D) (hd := hd) (hr := hr) hT.2.1.2 hnd _ hb
  have hl := oHrs_le (fun d hd => (hT.2.2.2 d hd).2) _ (fun j hj => (hb j hj).1)
  have hbl := hb.le
  have g10 := gB_le (S0 := S0) (nd := nd) (nb := nb) (hd := hd) (hr := hr) (x := x) (D := D)
  obtain ⟨b, b1, b2⟩ := (c3 0 (Nat.pow_pos (by omega))).1
  have hcap := cap_le hnd 0
  have e1 : bI S' 0 = (b : Int) := by show (S'.1 49 0).toInt = _; rw [b2]; exact nI_toInt (by omega)
  unfold oVal at hv
  rw [← hg, e1] at hv
  have e2 : pcI (oKp (kvS S0 nb x D hd) hr (oB S0 nd nb hd D hr x).2 (oB S0 nd nb hd D hr x).1) = gB S0 nd nb hd hr x D := rfl
  rw [e2] at hv
  have H' := H S' c1
  generalize gB S0 nd nb hd hr x D = G at *
  generalize oHrs hr (oB S0 nd nb hd D hr x).2 (oB S0 nd nb hd D hr x).1 = T at *
  have e3 : (S'.1 49 0 + 1000 - 1) / 1000 = nI G := by
    rw [b2, show (1000 : Int32) = nI 1000 from rfl, show (1 : Int32) = nI 1 from rfl, nI_add, pk_sub (by omega), pk_div (by omega) (by omega) (by omega)]
    exact congrArg nI (by omega)
  rw [e3]; exact H'
end
section
variable {nm nd nb nf hd st : Nat}
abbrev hrS (S : xSt) : Nat → Nat := fun d => (S.1 6 d).toNatClampNeg
theorem RelP.ct (hP : RelP nm nd nb nf hd st S M) : CT S nd nb hd (hrS S) := ⟨hP.1.2.1, hP.1.2.2.1, hP.1.2.2.2.2.1, fun d hd' => by
  obtain ⟨k, a, b, c⟩ := hP.1.2.2.2.2.2.2.2.1 d hd'
  have : hrS S d = k := by show (S.1 6 d).toNatClampNeg = k; rw [c, nCl (by omega)]
  rw [this]; exact ⟨c, b⟩⟩
theorem RelP.cm {D : Nat} (hP : RelP nm nd nb nf hd st S M) {q : xSt} (h1 : ∀ c, c ≠ 0 → c < 38 → q.1 c = M.1 c) (h2 : ∀ j, j < 79 → q.1 0 j = M.1 0 j) (h3 : q.1 0 80 = nI D) : CM S nd nb hd D (hrS S) q := by
  obtain ⟨a, b, c, hh⟩ := hP.ct
  obtain ⟨hT, hM, hW, hN, -⟩ := hP
  obtain ⟨⟨m1, m2, m3, m4, m5, m6⟩, -, md, mb, -⟩ := hM
  refine ⟨⟨by rw [h2 _ (by decide), m2]; exact a.1, a.2⟩, ⟨by rw [h2 _ (by decide), m3]; exact b.1, b.2⟩, ⟨by rw [h2 _ (by decide), m5]; exact c.1, c.2⟩, h3, fun d hd' => ⟨?_, (hh d hd').2⟩, fun b hb => ?_⟩
  · rw [h1 _ (by decide) (by decide), md d hd']; exact (hh d hd').1
  · obtain ⟨k1, k2, k3, k4, k5, k6, k7⟩ := mb b hb
    rw [h1 _ (by decide) (by decide), h1 26 (by decide) (by decide), h1 28 (by decide) (by decide), h1 33 (by decide) (by decide), h1 29 (by decide) (by decide)]
    exact ⟨(hN.1 b hb).1, k1, k3, k4, k5⟩
theorem FrB.lt {M1 M2 : xSt} (h : FrB M1 M2) : (∀ c, c ≠ 0 → c < 38 → M2.1 c = M1.1 c) ∧ ∀ j, j < 79 → M2.1 0 j = M1.1 0 j := ⟨fun c h0 h1 => h.1 c h0 (by show c ≠ 38; omega) (by show c ≠ 39; omega) (by show c ≠ 40; omega) (by show c ≠ 41; omega), fun j hj => h.2 j (Or.inl hj)⟩
theorem RelP.ord {S2 M2 : xSt} (hP : RelP nm nd nb nf hd st S M) (h1 : ∀ c, c < 46 ∨ 51 < c → S2.1 c = S.1 c) (h2 : FrB M M2) : RelP nm nd nb nf hd st S2 M2 := by
  have z1 : ∀ c, c ∈ rC → c < 46 ∨ 51 < c := by decide
  have z2 : ∀ c, c ∈ rM → c ≠ 0 ∧ c ≠ 38 ∧ c ≠ 39 ∧ c ≠ 40 ∧ c ≠ 41 := by decide
  have z3 : ∀ j, j ∈ rJ → j < 79 ∨ 83 < j := by decide
  exact hP.same (fun c hc => h1 c (z1 c hc)) (h1 _ (by decide)) (h1 _ (by decide)) (h1 _ (by decide)) (fun c hc => h2.1 c (z2 c hc).1 (z2 c hc).2.1 (z2 c hc).2.2.1 (z2 c hc).2.2.2.1 (z2 c hc).2.2.2.2) (fun j hj => h2.2 j (z3 j hj)) (h2.1 _ (by decide) (by decide) (by decide) (by decide) (by decide)) (h2.1 _ (by decide) (by decide) (by decide) (by decide) (by decide)) (h2.2 _ (by decide)) (h2.2 _ (by decide))
theorem RelP.lie0 (hP : RelP nm nd nb nf hd st S M) : RelP nm nd nb nf hd st (x_putI S 0 11 0) (x_putI M 0 85 0) :=
  hP.lie (fun c _ c0 _ => gI_ne _ _ _ c0) (fun j hj => by rw [gI_same, up_n _ _ hj]) rfl rfl rfl (fun c hc _ => by
    have c0 : c ≠ 0 := by revert c; decide
    exact gI_ne _ _ _ c0) (fun j _ hj => by rw [gI_same, up_n _ _ hj]) rfl rfl rfl rfl ⟨0, by omega, rfl, rfl, fun j hj => absurd hj (Nat.not_lt_zero _)⟩
theorem m_keepM {x x2 : Int32} {T : Nat} (hP : RelP nm nd nb nf hd st S M) (hday : M.1 34 20 = nI T) {K : Int32 → xSt → Prop} (H : ∀ M1 M2, FrB M M1 → SB S nd nb hd T (hrS S) x (oB S nd nb hd T (hrS S) x) M1 → (∀ c, c ≠ 0 → c ≠ 42 → M2.1 c = M1.1 c) → (∀ j, j ≠ 85 → M2.1 0 j = M1.1 0 j) → M2.1 0 85 = nI (oB S nd nb hd T (hrS S) x).1 → (∀ j, j < (oB S nd nb hd T (hrS S) x).1 → M2.1 42 j = nI ((oB S nd nb hd T (hrS S) x).2 j)) → (¬ x2 = 0 → ((¬ x2 = 1 → K (M1.1 0 83) M2) ∧ (x2 = 1 → K (M1.1 0 82) M2))) ∧ (x2 = 0 → M_M_members hm (e + 4) (M1.1 0 83) M2 (fun r1 S1 => K r1 S1))) : M_M_layBest hm e x 0 M (fun S3 => B_M_keep_32 hm e x2 0 S3 K) := by
  show M_M_layBest hm e x (nI 0) M (fun S3 => B_M_keep_32 hm e x2 0 S3 K)
  refine m_layBest (S0 := S) (nd := nd) (nb := nb) (hd := hd) (hr := hrS S) hday (hP.cm (fun c h0 h1 => gI_ne _ _ _ h0) (fun j hj => by rw [gI_same, up_n _ _ (by omega)]) (by rw [gI_same, up_s])) (fun M1 f1 b1 => ?_)
  have b1 : SB S nd nb hd T (hrS S) x (oB S nd nb hd T (hrS S) x) M1 := b1
  have hl := b1.1.le
  have hnd := hP.1.2.1.2
  generalize oB S nd nb hd T (hrS S) x = o at *
  refine lp_inv (B := fun i (q : xSt) => B_M_keep_32 hm e x2 (nI i) q K) (fun i q => (∀ c, c ≠ 42 → q.1 c = M1.1 c) ∧ ∀ j, j < i → q.1 42 j = nI (o.2 j)) o.1 (fun i q hi hI ih => ?_) (fun q hI => ?_) M1 ⟨fun c _ => rfl, fun j hj => absurd hj (Nat.not_lt_zero _)⟩
  · obtain ⟨q1, q2⟩ := hI
    refine b_M_keep_32 (br_f (by rw [q1 0 (by decide), b1.2.1]; exact nI_ge hi (by omega)) ⟨vIn (by omega) (by omega), vIn (by omega) (by omega), ?_⟩)
    rw [nCl (by omega), q1 41 (by decide), b1.2.2.2.2 i hi, nI_1]
    refine ih _ ⟨fun c hc => by rw [gI_ne _ _ _ hc]; exact q1 c hc, fun j hj => ?_⟩
    rw [gI_same]
    by_cases y : j = i
    · rw [y, up_s]
    · rw [up_n _ _ y]; exact q2 j (by omega)
  · obtain ⟨q1, q2⟩ := hI
    have := H M1 (x_putI q 0 85 (q.1 0 81)) f1 b1 (fun c c0 c1 => by rw [gI_ne _ _ _ c0]; exact q1 c c1) (fun j hj => by rw [gI_same, up_n _ _ hj, q1 0 (by decide)]) (by rw [gI_same, up_s, q1 0 (by decide)]; exact b1.2.1) (fun j hj => q2 j hj)
    refine b_M_keep_32 (br_t (by rw [q1 0 (by decide), b1.2.1]; exact nI_le (Nat.le_refl _) (by omega)) ?_)
    rw [q1 0 (by decide)] at this ⊢
    exact this
theorem sim_keep (hR : Rel S M) (x1 x2 : Int32) : OK2 Rel (M_O_keep hc d x1 x2 S) (M_M_keep hm e x1 x2 M) := by
  obtain ⟨nm, nd, nb, nf, hd, st, hP0⟩ := hR
  have hP := hP0.lie0
  refine e_O_keep ?_
  have em : ∀ K, M_M_isMan hm (e + 3) x1 (x_putI M 0 85 0) (fun r1 S1 => ((r1 = 0 → K (-1) S1) ∧ (¬ r1 = 0 → M_M_isIn hm (e + 4) x2 0 2 S1 (fun r2 S2 => ((¬ r2 = 0 → M_M_layBest hm e x1 0 S2 (fun S3 => B_M_keep_32 hm e x2 0 S3 K)) ∧ (r2 = 0 → K (-1) S2)))))) → M_M_keep hm e x1 x2 M K := fun K h => e_M_keep h
  generalize x_putI S 0 11 0 = S1 at hP ⊢
  generalize x_putI M 0 85 0 = M0 at hP em
  have tm := hP.1.1
  have mm : M0.1 0 56 = S1.1 2 0 := hP.2.1.1.1
  have rl : Rel S1 M0 := ⟨nm, nd, nb, nf, hd, st, hP⟩
  rcases outC x1 tm.1 (by omega) with c | ⟨j, hj, rfl, c1, c2⟩
  · exact hMan_n c (br_t rfl (em _ (isMan_n tm.1 mm (by omega) c (br_t rfl ⟨rfl, rl⟩))))
  · refine hMan_y c1 c2 (br_f (by decide) ?_)
    by_cases c3 : x2 < 0
    · exact br_t c3 (em _ (isMan_y tm.1 mm (by omega) c1 c2 (br_f (by decide) (isIn_n (fun z => z.1 c3) (br_nt rfl ⟨rfl, rl⟩)))))
    · refine br_f c3 ?_
      by_cases c4 : x2 ≤ 2
      · obtain ⟨T, hT1, hT2⟩ := hP.2.2.2.1.2.2.2.2.1
        have hday : M0.1 34 20 = nI T := by rw [hP.2.2.2.1.2.1]; exact hT2
        have hct := hP.ct
        have hnd := hct.1.2
        have hnb := hct.2.1.2
        refine br_t c4 (m_lookAt hct.1.1 hnd hct.2.1.1 hnb (fun d h => (hct.2.2.2 d h).1) (fun c _ => rfl) (fun S2 k2 => m_Co_today ?_))
        have e20 : S2.1 42 20 = nI T := by rw [k2.1 _ (by decide)]; exact hT2
        rw [e20]
        refine m_findBest hct k2 (fun S4 k4 b4 r4 => ?_)
        have hbk : BK S1 nd nb hd T (hrS S1) (nI j) S4 := ⟨k4, b4, r4⟩
        have ho := oB_ok hbk
        have hol := ho.le
        refine m_followBest hct hbk (fun S5 f5 h5 => ?_)
        obtain ⟨f1, f2, f3, f4, f5⟩ := f5
        rw [f3]
        refine m_layOut rfl (by decide) (by decide) (by omega) (fun S6 g1 g2 g3 g4 => ?_)
        have s46 : S6.1 46 = S5.1 46 := g1 46 (by decide) (by decide)
        have hall : ∀ c, c ≠ 0 → c ≠ 63 → (c < 46 ∨ 51 < c) → S6.1 c = S1.1 c := fun c h0 h1 h2 => by rw [g1 c h0 h1, f1 c (by omega) (by omega)]; exact k4.1 c h2
        have h0' : ∀ i, i ≠ 11 → S6.1 0 i = S1.1 0 i := fun i hi => by rw [g2 i hi, f1 0 (by decide) (by decide)]; exact congrFun (k4.1 0 (by decide)) i
        have fin : ∀ K, (∀ M1 M2, SB S1 nd nb hd T (hrS S1) (nI j) (oB S1 nd nb hd T (hrS S1) (nI j)) M1 → Rel S6 M2 → (¬ x2 = 0 → ((¬ x2 = 1 → K (M1.1 0 83) M2) ∧ (x2 = 1 → K (M1.1 0 82) M2))) ∧ (x2 = 0 → M_M_members hm (e + 4) (M1.1 0 83) M2 (fun r1 S1 => K r1 S1))) → M_M_keep hm e (nI j) x2 M K := by
          intro K hK
          refine em K (isMan_y tm.1 mm (by omega) c1 c2 (br_f (by decide) (isIn_y ⟨c3, fun z => (nle_lt.mpr z) c4⟩ (br_nf (by decide) (m_keepM hP hday (fun M1 M2 p1 p2 p3 p4 p5 p6 => hK M1 M2 p2 ⟨nm, nd, nb, nf, hd, st, ?_⟩))))))
          have z1 : ∀ c, c ∈ rC → c < 46 ∨ 51 < c := by decide
          have z2 : ∀ c, c ∈ rM → c ≠ 0 ∧ c ≠ 38 ∧ c ≠ 39 ∧ c ≠ 40 ∧ c ≠ 41 := by decide
          have z3 : ∀ j, j ∈ rJ → j < 79 ∨ 83 < j := by decide
          have b0 : ∀ j, j ≠ 85 → (j < 79 ∨ 83 < j) → M2.1 0 j = M0.1 0 j := fun j h1 h2 => by rw [p4 j h1]; exact p1.2 j h2
          have bc : ∀ c, c ≠ 0 → c ≠ 42 → c ≠ 38 → c ≠ 39 → c ≠ 40 → c ≠ 41 → M2.1 c = M0.1 c := fun c h0 h1 h2 h3 h4 h5 => by rw [p3 c h0 h1]; exact p1.1 c h0 h2 h3 h4 h5
          refine hP.lie (fun c hc h0 h1 => hall c h0 h1 (z1 c hc)) h0' (hall _ (by decide) (by decide) (by decide)) (hall _ (by decide) (by decide) (by decide)) (hall _ (by decide) (by decide) (by decide)) (fun c hc h1 => bc c (z2 c hc).1 h1 (z2 c hc).2.1 (z2 c hc).2.2.1 (z2 c hc).2.2.2.1 (z2 c hc).2.2.2.2) (fun j hj h => b0 j h (z3 j hj)) (bc _ (by decide) (by decide) (by decide) (by decide) (by decide) (by decide)) (bc _ (by decide) (by decide) (by decide) (by decide) (by decide) (by decide)) (b0 _ (by decide) (by decide)) (b0 _ (by decide) (by decide)) ⟨_, by omega, g3, p5, fun i hi => ?_⟩
          rw [p6 i hi, g4 i hi, f5 i hi]
        rw [s46, f4, h5]
        by_cases c5 : x2 = 0
        · refine br_nt c5 ?_
          obtain ⟨k, hk1, hk2⟩ := kp_n (S0 := S1) (nb := nb) (D := T) (hd := hd) (hr := hrS S1) (x := nI j) hnb (oB S1 nd nb hd T (hrS S1) (nI j))
          refine m_bitC hk2 hk1 (fin _ (fun M1 M2 p2 rl2 => br_nt c5 ?_))
          rw [p2.2.2.2.1]
          exact m_members _ ⟨rfl, rl2⟩
        · refine br_nf c5 ?_
          by_cases c6 : x2 = 1
          · exact br_nt c6 (fin _ (fun M1 M2 p2 rl2 => br_nf c5 (br_nt c6 ⟨p2.2.2.1, rl2⟩)))
          · exact br_nf c6 (fin _ (fun M1 M2 p2 rl2 => br_nf c5 (br_nf c6 ⟨p2.2.2.2.1, rl2⟩)))
      · exact br_f c4 (em _ (isMan_y tm.1 mm (by omega) c1 c2 (br_f (by decide) (isIn_n (fun z => z.2 (nle_lt.mp c4)) (br_nt rfl ⟨rfl, rl⟩)))))
theorem rest_r (f : Nat → Nat) (a : Nat) (h0 : a ≤ f 0) : ∀ n, ∃ r, r ≤ n ∧ a ≤ f r ∧ ∀ k, r < k → k ≤ n → f k < a := by
  intro n
  induction n with
  | zero => exact ⟨0, Nat.le_refl _, h0, fun k h1 h2 => absurd h1 (by omega)⟩
  | succ n ih =>
    by_cases c : a ≤ f (n + 1)
    · exact ⟨n + 1, Nat.le_refl _, c, fun k h1 h2 => absurd h1 (by omega)⟩
    · obtain ⟨r, h1, h2, h3⟩ := ih
      refine ⟨r, by omega, h2, fun k h4 h5 => ?_⟩
      by_cases y : k = n + 1
      · rw [y]; omega
      · exact h3 k h4 (by omega)
theorem sim_rest (hR : Rel S M) (x1 : Int32) : OK2 Rel (M_O_rest hc d x1 S) (M_M_rest hm e x1 M) := by
  have rl := hR
  obtain ⟨nm, nd, nb, nf, hd, st, hP⟩ := hR
  have tm := hP.1.1
  have mm : M.1 0 56 = S.1 2 0 := hP.2.1.1.1
  refine e_O_rest ?_
  rcases outC x1 tm.1 (by omega) with c | ⟨j, hj, rfl, c1, c2⟩
  · exact hMan_n c (br_nt rfl (e_M_rest (isMan_n tm.1 mm (by omega) c (br_nt rfl ⟨rfl, rl⟩))))
  · refine hMan_y c1 c2 (br_nf (by decide) ?_)
    obtain ⟨T, hT1, hT2⟩ := hP.2.2.2.1.2.2.2.2.1
    have hday : M.1 34 20 = nI T := by rw [hP.2.2.2.1.2.1]; exact hT2
    have hct := hP.ct
    have hnd := hct.1.2
    have hnb := hct.2.1.2
    refine m_lookAt hct.1.1 hnd hct.2.1.1 hnb (fun d h => (hct.2.2.2 d h).1) (fun c _ => rfl) (fun S2 k2 => m_Co_today ?_)
    have e20 : ∀ q, CO S nd nb (hrS S) (nI j) q → q.1 42 20 = nI T := fun q h => by rw [h.1 _ (by decide)]; exact hT2
    rw [e20 S2 k2]
    refine m_mostKept hct k2 (fun S4 k4 => ?_)
    obtain ⟨r, r1, r2, r3⟩ := rest_r (fun n => gB S nd nb hd (hrS S) (nI j) (T + n)) (gB S nd nb hd (hrS S) (nI j) T) (Nat.le_refl _) 60
    have r2 : gB S nd nb hd (hrS S) (nI j) T ≤ gB S nd nb hd (hrS S) (nI j) (T + r) := r2
    have r3 : ∀ k, r < k → k ≤ 60 → gB S nd nb hd (hrS S) (nI j) (T + k) < gB S nd nb hd (hrS S) (nI j) T := r3
    have g10 : ∀ D, gB S nd nb hd (hrS S) (nI j) D ≤ 10 := fun D => gB_le
    -- the reference
    have ref : ∀ q : xSt, CO S nd nb (hrS S) (nI j) q → M_M_rest hm e (nI j) M (fun r' M' => r' = nI r ∧ Rel q M') := by
      intro q hq
      have lb : ∀ (n : Nat) (M1 : xSt) (K : xSt → Prop), FrB M M1 → (∀ M2, FrB M M2 → M2.1 0 83 = oKp (kvS S nb (nI j) (T + n) hd) (hrS S) (oB S nd nb hd (T + n) (hrS S) (nI j)).2 (oB S nd nb hd (T + n) (hrS S) (nI j)).1 → K M2) → M_M_layBest hm e (nI j) (nI n) M1 K := by
        intro n M1 K f1 hK
        have fl := f1.lt
        refine m_layBest (S0 := S) (nd := nd) (nb := nb) (hd := hd) (hr := hrS S) (T := T) (by rw [fl.1 _ (by decide) (by decide)]; exact hday) (hP.cm (fun c h0 h1 => by rw [gI_ne _ _ _ h0]; exact fl.1 c h0 h1) (fun j hj => by rw [gI_same, up_n _ _ (by omega)]; exact fl.2 j hj) (by rw [gI_same, up_s])) (fun M2 f2 b2 => hK M2 (f1.tr f2) b2.2.2.2.1)
      have go : ∀ k, r + k ≤ 60 → ∀ M1, FrB M M1 → M1.1 0 83 = oKp (kvS S nb (nI j) (T + (r + k)) hd) (hrS S) (oB S nd nb hd (T + (r + k)) (hrS S) (nI j)).2 (oB S nd nb hd (T + (r + k)) (hrS S) (nI j)).1 → B_M_rest_33 hm e (nI j) (nI (gB S nd nb hd (hrS S) (nI j) T)) (nI (r + k)) M1 (fun r' M' => r' = nI r ∧ Rel q M') := by
        intro k
        induction k with
        | zero =>
          intro hk M1 f1 b1
          refine b_M_rest_33 ?_
          rw [b1]
          refine m_members _ (br_t ?_ ⟨rfl, nm, nd, nb, nf, hd, st, hP.ord hq.1 f1⟩)
          have := g10 (T + r)
          exact nI_le r2 (by show gB S nd nb hd (hrS S) (nI j) (T + r) < 2147483648; omega)
        | succ k ih =>
          intro hk M1 f1 b1
          refine b_M_rest_33 ?_
          rw [b1]
          refine m_members _ (br_f ?_ ?_)
          · have := g10 T
            exact nI_ge (r3 (r + (k + 1)) (by omega) hk) (by omega)
          · rw [add_m1, show r + (k + 1) = r + k + 1 by omega, nI_pred]
            exact lb (r + k) M1 _ f1 (fun M2 f2 b2 => ih (by omega) M2 f2 b2)
      refine e_M_rest (isMan_y tm.1 mm (by omega) c1 c2 (br_nf (by decide) ?_))
      refine lb 0 M _ ⟨fun c _ _ _ _ _ => rfl, fun j _ => rfl⟩ (fun M2 f2 b2 => ?_)
      rw [b2]
      refine m_members _ (lb 60 M2 _ f2 (fun M3 f3 b3 => ?_))
      have := go (60 - r) (by omega)
      rw [show r + (60 - r) = 60 by omega] at this
      exact this M3 f3 b3
    -- the class
    have go : ∀ k, r + k ≤ 60 → ∀ q, CO S nd nb (hrS S) (nI j) q → B_O_rest_39 hc d (nI (gB S nd nb hd (hrS S) (nI j) T)) (nI (r + k)) q (fun r S' => M_M_rest hm e (nI j) M (fun r' M' => r' = r ∧ Rel S' M')) := by
      intro k
      induction k with
      | zero =>
        intro hk q hq
        rw [Nat.add_zero]
        refine b_O_rest_39 ?_
        by_cases c : r = 0
        · have := ref q hq
          rw [c] at this ⊢
          exact br_t (by decide) this
        · refine br_f (fun z => c (by have := (nLe (b := 0) (by omega) (by omega)).mp z; omega)) ?_
          by_cases c2 : nI (gB S nd nb hd (hrS S) (nI j) T) = 0
          · exact br_t c2 (ref q hq)
          · refine br_f c2 (m_Co_today ?_)
            rw [e20 q hq, nI_add]
            refine m_mostKept hct hq (fun q' hq' => br_f ?_ (ref q' hq'))
            have h1 := g10 T
            have h2 := g10 (T + r)
            exact fun z => absurd ((nLt (by omega) (by omega)).mp z) (by omega)
      | succ k ih =>
        intro hk q hq
        have lt := r3 (r + (k + 1)) (by omega) hk
        have h1 := g10 T
        have h2 := g10 (T + (r + (k + 1)))
        refine b_O_rest_39 (br_f (fun z => by have := (nLe (b := 0) (by omega) (by omega)).mp z; omega) (br_f (fun z => by have := (nEq (b := 0) (by omega) (by omega)).mp z; omega) (m_Co_today ?_)))
        rw [e20 q hq, nI_add]
        refine m_mostKept hct hq (fun q' hq' => br_t ((nLt (by omega) (by omega)).mpr lt) ?_)
        rw [add_m1, show r + (k + 1) = r + k + 1 by omega, nI_pred]
        exact ih (by omega) q' hq'
    have := go (60 - r) (by omega) S4 k4
    rw [show r + (60 - r) = 60 by omega] at this
    exact this
end
end
