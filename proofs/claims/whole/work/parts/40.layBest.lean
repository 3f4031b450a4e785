section
variable {hc hm : xH} {d e : Nat} {S M : xSt}
section
variable {S0 : xSt} {nd nb hd D : Nat} {hr : Nat → Nat} {x : Int32}
theorem m_isAhead {b c : oT} (hb : oOK nd b) (hcc : oOK nd c) (hnd : nd ≤ 6) (e1 : M.1 0 79 = nI c.1) (e2 : ∀ j, j < c.1 → M.1 38 j = nI (c.2 j)) (e3 : M.1 0 81 = nI b.1) (e4 : ∀ j, j < b.1 → M.1 41 j = nI (b.2 j)) (hp : (b.1 ≤ c.1 ∧ ∀ j, j < b.1 → b.2 j = c.2 j) ∨ (∃ k, k < b.1 ∧ k < c.1 ∧ (∀ j, j < k → b.2 j = c.2 j) ∧ b.2 k < c.2 k)) {K : Int32 → xSt → Prop} (H : K 0 M) : M_M_isAhead hm e M K := by
  have hbl := hb.le
  have hcl := hcc.le
  refine e_M_isAhead ?_
  obtain ⟨k, hk1, hk2, hk3, hk4⟩ : ∃ k, k ≤ b.1 ∧ k ≤ c.1 ∧ (∀ j, j < k → b.2 j = c.2 j) ∧ (k = b.1 ∨ (k < b.1 ∧ k < c.1 ∧ b.2 k < c.2 k)) := by
    rcases hp with ⟨h1, h2⟩ | ⟨k, h1, h2, h3, h4⟩
    · exact ⟨b.1, Nat.le_refl _, h1, h2, Or.inl rfl⟩
    · exact ⟨k, by omega, by omega, h3, Or.inr ⟨h1, h2, h4⟩⟩
  have fin : B_M_isAhead_39 hm e (nI k) M K := by
    rcases hk4 with h | ⟨h1, h2, h3⟩
    · exact b_M_isAhead_39 (br_t (by rw [e3, h]; exact nI_le (Nat.le_refl _) (by omega)) H)
    · have b6 := (hb k h1).1
      have c6 := (hcc k h2).1
      refine b_M_isAhead_39 (br_f (by rw [e3]; exact nI_ge h1 (by omega)) (br_f (by rw [e1]; exact fun z => absurd ((nEq (by omega) (by omega)).mp z) (by omega)) ⟨vIn (by omega) (by omega), vIn (by omega) (by omega), ?_⟩))
      rw [nCl (by omega), e4 k h1, e2 k h2]
      exact br_t (nI_le (by omega) (by omega)) H
  have go : ∀ t i, i + t = k → B_M_isAhead_2 hm e (nI i) M K := by
    intro t
    induction t with
    | zero =>
      intro i hi
      have : i = k := by omega
      subst this
      refine b_M_isAhead_2 ?_
      by_cases q : M.1 0 79 ≤ nI i
      · exact br_t q fin
      · refine br_f q ?_
        by_cases q2 : M.1 0 81 ≤ nI i
        · exact br_t q2 fin
        · refine br_f q2 ⟨vIn (by omega) (by omega), vIn (by omega) (by omega), ?_⟩
          rw [nCl (by omega)]
          rcases hk4 with h | ⟨h1, h2, h3⟩
          · exact absurd (by rw [e3, h]; exact nI_le (Nat.le_refl _) (by omega)) q2
          · have b6 := (hb i h1).1
            have c6 := (hcc i h2).1
            rw [e4 i h1, e2 i h2]
            exact br_nf (fun z => absurd ((nEq (by omega) (by omega)).mp z) (by omega)) fin
    | succ t ih =>
      intro i hi
      refine b_M_isAhead_2 (br_f (by rw [e1]; exact nI_ge (by omega) (by omega)) (br_f (by rw [e3]; exact nI_ge (by omega) (by omega)) ⟨vIn (by omega) (by omega), vIn (by omega) (by omega), ?_⟩))
      rw [nCl (by omega), e4 i (by omega), e2 i (by omega), nI_1]
      exact br_nt (by rw [hk3 i (by omega)]) (ih (i + 1) (by omega))
  exact go k 0 (by omega)
/-- the best one so far, in the reference's fields -/
def SB (S0 : xSt) (nd nb hd D : Nat) (hr : Nat → Nat) (x : Int32) (b : oT) (M : xSt) : Prop := oOK nd b ∧ M.1 0 81 = nI b.1 ∧ M.1 0 82 = nI (oHrs hr b.2 b.1) ∧ M.1 0 83 = oKp (kvS S0 nb x D hd) hr b.2 b.1 ∧ ∀ j, j < b.1 → M.1 41 j = nI (b.2 j)
theorem m_isBetter {b c : oT} (hC : CM S0 nd nb hd D hr M) (hs : SKo (kvS S0 nb x D hd) hr c M) (hcc : oOK nd c) (hB : SB S0 nd nb hd D hr x b M) (hp : (b.1 ≤ c.1 ∧ ∀ j, j < b.1 → b.2 j = c.2 j) ∨ (∃ k, k < b.1 ∧ k < c.1 ∧ (∀ j, j < k → b.2 j = c.2 j) ∧ b.2 k < c.2 k)) {K : Int32 → xSt → Prop} (H : K (if oVal hr (gS S0 nb x D hd) b < oVal hr (gS S0 nb x D hd) c then 1 else 0) M) : M_M_isBetter hm e M K := by
  have hnd := hC.1.2
  have hnb := hC.2.1.2
  have hh := hC.2.2.2.2.1
  obtain ⟨s1, s2, s3, s4⟩ := hs
  obtain ⟨hb, b1, b2, b3, b4⟩ := hB
  have hbl := hb.le
  have hcl := hcc.le
  have lb := oHrs_le (fun d hd => (hh d hd).2) b.1 (fun j hj => (hb j hj).1)
  have lc := oHrs_le (fun d hd => (hh d hd).2) c.1 (fun j hj => (hcc j hj).1)
  have co : (nI c.1).toNatClampNeg = c.1 := nCl (by omega)
  have v7 : vp_in (nI c.1) 7 := vIn (by omega) (by omega)
  have pb := pc_kp (S0 := S0) (x := x) (D := D) (hd := hd) (hr := hr) hnb hnd b.1 hb
  have pc := pc_kp (S0 := S0) (x := x) (D := D) (hd := hd) (hr := hr) hnb hnd c.1 hcc
  have p1 := pcI_le (oKp (kvS S0 nb x D hd) hr b.2 b.1)
  have p2 := pcI_le (oKp (kvS S0 nb x D hd) hr c.2 c.1)
  unfold oVal at H
  rw [← pb, ← pc] at H
  generalize hpb : pcI (oKp (kvS S0 nb x D hd) hr b.2 b.1) = pb' at *
  generalize hpc : pcI (oKp (kvS S0 nb x D hd) hr c.2 c.1) = pc' at *
  generalize hlb : oHrs hr b.2 b.1 = lb' at *
  generalize hlc : oHrs hr c.2 c.1 = lc' at *
  refine e_M_isBetter ?_
  rw [s1, co, s4 c.1 (Nat.le_refl _)]
  refine ⟨v7, m_members _ ?_⟩
  rw [hpc, b3]
  refine m_members _ ?_
  rw [hpb, s1, co, s3 c.1 (Nat.le_refl _), b2, hlc]
  by_cases c1 : pc' = pb'
  · refine br_t (by rw [c1]) ⟨v7, ?_⟩
    by_cases c2 : lc' = lb'
    · refine br_t (by rw [c2]) (m_isAhead hb hcc hnd s1 s2 b1 b4 hp ⟨zb0, ?_⟩)
      rw [if_neg (by omega)] at H; exact H
    · refine br_f (fun z => c2 ((nEq (by omega) (by omega)).mp z)) ⟨v7, ?_⟩
      by_cases c3 : lb' ≤ lc'
      · rw [if_neg (by omega)] at H
        exact br_t (nI_le c3 (by omega)) H
      · rw [if_pos (by omega)] at H
        exact br_f (nI_ge (by omega) (by omega)) H
  · refine br_f (fun z => c1 ((nEq (by omega) (by omega)).mp z)) ?_
    by_cases c3 : pc' ≤ pb'
    · rw [if_neg (by omega)] at H
      exact br_t (nI_le c3 (by omega)) H
    · rw [if_pos (by omega)] at H
      exact br_f (nI_ge (by omega) (by omega)) H
/-- what finding the best one changes -/
def FrB (M M' : xSt) : Prop := (∀ c, c ≠ 0 → c ≠ 38 → c ≠ 39 → c ≠ 40 → c ≠ 41 → M'.1 c = M.1 c) ∧ ∀ j, j < 79 ∨ 83 < j → M'.1 0 j = M.1 0 j
theorem FrB.tr {M1 M2 M3 : xSt} (h : FrB M1 M2) (g : FrB M2 M3) : FrB M1 M3 := ⟨fun c a b c1 d e => (g.1 c a b c1 d e).trans (h.1 c a b c1 d e), fun j a => (g.2 j a).trans (h.2 j a)⟩
theorem FrO.b {M1 M2 : xSt} (h : FrO M1 M2) : FrB M1 M2 := ⟨fun c a b c1 d _ => h.1 c a b c1 d, fun j a => h.2 j (by omega)⟩
theorem m_layBest {M0 : xSt} {T later : Nat} (hday : M0.1 34 20 = nI T) (hC : CM S0 nd nb hd (T + later) hr (x_putI M0 0 80 (nI (T + later)))) {K : xSt → Prop} (H : ∀ M', FrB M0 M' → SB S0 nd nb hd (T + later) hr x (fk nd hr (fbS S0 nb x (T + later) hd) (visB hr (gS S0 nb x (T + later) hd)) nd (0, fun _ => 0) (0, fun _ => 0)) M' → K M') : M_M_layBest hm e x (nI later) M0 K := by
  refine e_M_layBest ?_
  rw [hday, nI_add]
  refine e_M_beginOrder ?_
  have fin : ∀ M1 : xSt, FrB M0 M1 → CM S0 nd nb hd (T + later) hr M1 → SKo (kvS S0 nb x (T + later) hd) hr (0, fun _ => 0) M1 → SB S0 nd nb hd (T + later) hr x (0, fun _ => 0) M1 → B_M_layBest_32 hm e x M1 K := by
    intro M1 f1 c1 k1 b1
    refine b_M_layBest_32 ?_
    refine dfs (S0 := S0) (nd := nd) (nb := nb) (hd := hd) (D := T + later) (hr := hr) (x := x) (visB hr (gS S0 nb x (T + later) hd)) oPos (fun b q => FrB M0 q ∧ CM S0 nd nb hd (T + later) hr q ∧ SB S0 nd nb hd (T + later) hr x b q) _ (fun b q q' h fr => ?_) (fun b q h => h.2.1) (fun b o d h => oPos_1 h) (fun b o d h => ?_) (fun b o d _ h => oPos_3 h) (fun b o d q ho hI hs hS go => ?_) nd (0, fun _ => 0) (fun j hj => absurd hj (Nat.not_lt_zero _)) (by show 0 + nd = nd; omega) (0, fun _ => 0) (fun q hs hS hI => ?_) M1 k1 ⟨f1, c1, b1⟩ (Or.inl ⟨Nat.le_refl _, fun j hj => rfl⟩)
    · obtain ⟨h1, h2, h3, h4, h5, h6, h7⟩ := h
      refine ⟨h1.tr fr.b, h2.fr fr, h3, ?_, ?_, ?_, ?_⟩
      · rw [fr.2 81 (by decide)]; exact h4
      · rw [fr.2 82 (by decide)]; exact h5
      · rw [fr.2 83 (by decide)]; exact h6
      · rw [fr.1 41 (by decide) (by decide) (by decide) (by decide)]; exact h7
    · unfold visB
      split
      · exact Or.inl ⟨Nat.le_refl _, fun j _ => rfl⟩
      · exact (oPos_p h 0).1
    · obtain ⟨h1, h2, h3⟩ := hS
      refine br_f (by decide) (m_isBetter h2 hs ho h3 (oPos_p hI 0).2 ?_)
      by_cases c : oVal hr (gS S0 nb x (T + later) hd) b < oVal hr (gS S0 nb x (T + later) hd) (oPush o d)
      · have ev : visB hr (gS S0 nb x (T + later) hd) (oPush o d) b = oPush o d := if_pos c
        rw [ev] at go
        rw [if_pos c]
        have hol := ho.le
        have hnd := h2.1.2
        obtain ⟨s1, s2, s3, s4⟩ := hs
        have v7 : vp_in (nI (oPush o d).1) 7 := vIn (by omega) (by omega)
        refine br_nf (by decide) ?_
        rw [s1, nCl (by omega), s3 _ (Nat.le_refl _), s4 _ (Nat.le_refl _)]
        refine ⟨v7, v7, ?_⟩
        refine lp_inv (B := fun i (q2 : xSt) => B_M_layBest_86 hm e x (nI i) q2 K) (fun i q2 => (∀ c, c ≠ 0 → c ≠ 41 → q2.1 c = q.1 c) ∧ (∀ j, j ≠ 81 → j ≠ 82 → j ≠ 83 → q2.1 0 j = q.1 0 j) ∧ q2.1 0 81 = nI (oPush o d).1 ∧ q2.1 0 82 = nI (oHrs hr (oPush o d).2 (oPush o d).1) ∧ q2.1 0 83 = oKp (kvS S0 nb x (T + later) hd) hr (oPush o d).2 (oPush o d).1 ∧ ∀ j, j < i → q2.1 41 j = nI ((oPush o d).2 j)) (oPush o d).1 (fun i q2 hi hI2 ih => ?_) (fun q2 hI2 => ?_) _ ⟨fun c c0 _ => by rw [gI_ne _ _ _ c0, gI_ne _ _ _ c0, gI_ne _ _ _ c0], fun j j1 j2 j3 => by show upd (upd (upd (q.1 0) 81 _) 82 _) 83 _ j = _; rw [up_n _ _ j3, up_n _ _ j2, up_n _ _ j1], rfl, rfl, rfl, fun j hj => absurd hj (Nat.not_lt_zero _)⟩
        · obtain ⟨r1, r2, r3, r4, r5, r6⟩ := hI2
          refine b_M_layBest_86 (br_f (by rw [r2 79 (by decide) (by decide) (by decide), s1]; exact nI_ge hi (by omega)) ⟨vIn (by omega) (by omega), vIn (by omega) (by omega), ?_⟩)
          rw [nCl (by omega), nI_1, r1 38 (by decide) (by decide), s2 i hi]
          refine ih _ ⟨fun c c0 c1 => by rw [gI_ne _ _ _ c1]; exact r1 c c0 c1, r2, r3, r4, r5, fun j hj => ?_⟩
          rw [gI_same]
          by_cases y : j = i
          · rw [y, up_s]
          · rw [up_n _ _ y]; exact r6 j (by omega)
        · obtain ⟨r1, r2, r3, r4, r5, r6⟩ := hI2
          refine b_M_layBest_86 (br_t (by rw [r2 79 (by decide) (by decide) (by decide), s1]; exact nI_le (Nat.le_refl _) (by omega)) (b_M_layBest_32 (go q2 ⟨?_, ?_, ?_, ?_⟩ ⟨h1.tr ⟨fun c c0 c1 c2 c3 c4 => r1 c c0 c4, fun j hj => r2 j (by omega) (by omega) (by omega)⟩, ?_, ho, r3, r4, r5, r6⟩)))
          · rw [r2 79 (by decide) (by decide) (by decide)]; exact s1
          · rw [r1 38 (by decide) (by decide)]; exact s2
          · rw [r1 39 (by decide) (by decide)]; exact s3
          · rw [r1 40 (by decide) (by decide)]; exact s4
          · unfold CM
            rw [r2 57 (by decide) (by decide) (by decide), r2 58 (by decide) (by decide) (by decide), r2 60 (by decide) (by decide) (by decide), r2 80 (by decide) (by decide) (by decide), r1 18 (by decide) (by decide), r1 34 (by decide) (by decide), r1 26 (by decide) (by decide), r1 28 (by decide) (by decide), r1 33 (by decide) (by decide), r1 29 (by decide) (by decide)]
            exact h2
      · have ev : visB hr (gS S0 nb x (T + later) hd) (oPush o d) b = b := if_neg c
        rw [ev] at go
        rw [if_neg c]
        exact br_nt rfl (b_M_layBest_32 (go q hs ⟨h1, h2, h3⟩))
    · obtain ⟨h1, h2, h3⟩ := hS
      refine b_M_nextOrder_27 (br_t (by rw [hs.1]; decide) (br_t rfl (H q h1 h3)))
  refine fin _ ⟨fun c c0 c1 c2 c3 c4 => ?_, fun j hj => ?_⟩ ?_ ⟨rfl, fun j hj => absurd hj (Nat.not_lt_zero _), fun j hj => ?_, fun j hj => ?_⟩ ⟨fun j hj => absurd hj (Nat.not_lt_zero _), rfl, rfl, rfl, fun j hj => absurd hj (Nat.not_lt_zero _)⟩
  · rw [gI_ne _ _ _ c0, gI_ne _ _ _ c0, gI_ne _ _ _ c0, gI_ne _ _ _ c3, gI_ne _ _ _ c2, gI_ne _ _ _ c0, gI_ne _ _ _ c0]
  · show upd (upd (upd (upd (upd (M0.1 0) 80 _) 79 _) 81 _) 82 _) 83 _ j = _
    rw [up_n _ _ (by omega), up_n _ _ (by omega), up_n _ _ (by omega), up_n _ _ (by omega), up_n _ _ (by omega)]
  · exact hC
  · have : j = 0 := by have hj : j ≤ 0 := hj; omega
    subst this; rfl
  · have : j = 0 := by have hj : j ≤ 0 := hj; omega
    subst this; rfl
end
end
