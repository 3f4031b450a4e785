section
variable {hc hm : xH} {d e : Nat} {S M : xSt}
section
variable {S0 : xSt} {nd nb hd D : Nat} {hr : Nat → Nat} {x : Int32}
/-- the class's table of bests stands -/
def BK (S0 : xSt) (nd nb hd D : Nat) (hr : Nat → Nat) (x : Int32) (S : xSt) : Prop := CO S0 nd nb hr x S ∧ S.1 46 4 = nI D ∧ ∀ A, A < 2 ^ nd → Bnd nd S A ∧ RecOK S0 nd nb hd D hr x S A
theorem BK.fr {q : xSt} (h : BK S0 nd nb hd D hr x S) (h1 : ∀ c, c ≠ 46 → c ≠ 51 → q.1 c = S.1 c) (h2 : ∀ j, j < 9 → q.1 46 j = S.1 46 j) : BK S0 nd nb hd D hr x q := by
  obtain ⟨⟨a1, a2, a3, a4⟩, b, c⟩ := h
  refine ⟨⟨fun c hc => ?_, ?_, ?_, ?_⟩, ?_, ?_⟩
  · rw [h1 c (by omega) (by omega)]; exact a1 c hc
  · rw [h2 _ (by decide)]; exact a2
  · rw [h1 47 (by decide) (by decide)]; exact a3
  · rw [h1 48 (by decide) (by decide)]; exact a4
  · rw [h2 _ (by decide)]; exact b
  · unfold Bnd RecOK wS bI
    rw [h1 49 (by decide) (by decide)]
    exact c
abbrev Vb (S : xSt) : oT → Int := fun o => bI S (sSe o.2 o.1)
theorem al_o {o : oT} (ho : oOK nd o) {dd : Nat} (hd' : dd < nd) : (alS S0 nd nb hd D hr x (sSe o.2 o.1) dd ↔ oAl hr (fbS S0 nb x D hd) o dd) ∧ (alS S0 nd nb hd D hr x (sSe o.2 o.1) dd → wS S0 nd nb hd D hr x S (sSe o.2 o.1) dd = oWon hr (gS S0 nb x D hd) (Vb S) o dd) := by
  have e1 := sSe_t (f := o.2) o.1 dd
  have e2 := hSe_s (hr := hr) o.1 ho
  have e3 : (sSe o.2 o.1).testBit dd = false → hSe hr (sSe o.2 o.1 ||| 2 ^ dd) nd = oHrs hr o.2 o.1 + hr dd := fun h => by rw [hSe_or hr h, if_pos hd', e2]
  refine ⟨⟨fun h => ?_, fun h => ?_⟩, fun h => ?_⟩
  · obtain ⟨a, b⟩ := h
    rw [e3 a] at b
    exact ⟨by rw [← e1]; exact a, b⟩
  · obtain ⟨a, b⟩ := h
    rw [← e1] at a
    rw [← e3 a] at b
    exact ⟨a, b⟩
  · unfold wS oWon
    rw [e3 h.1]
    show _ = _ + bI S (sSe (oPush o dd).2 (oPush o dd).1)
    rw [sSe_p]
theorem fm_b {o : oT} (ho : oOK nd o) : fm nd hr (fbS S0 nb x D hd) (gS S0 nb x D hd) (Vb S) o nd = fmG (alS S0 nd nb hd D hr x (sSe o.2 o.1)) (wS S0 nd nb hd D hr x S (sSe o.2 o.1)) nd nd := by
  rw [fm_fmG]
  exact (fmG_c (fun d hd' => ⟨(al_o (S := S) ho hd').1.symm, fun al => ((al_o (S := S) ho hd').2 ((al_o (S := S) ho hd').1.mpr al)).symm⟩) nd (Nat.le_refl _)).1
theorem sSe_ok {o : oT} (ho : oOK nd o) : sSe o.2 o.1 < 2 ^ nd := sSe_lt o.1 (fun j hj => (ho j hj).1)
theorem V_ok (h : BK S0 nd nb hd D hr x S) : VOK nd hr (fbS S0 nb x D hd) (gS S0 nb x D hd) (Vb S) := by
  intro o ho
  have hr' := (h.2.2 _ (sSe_ok ho)).2
  rw [fm_b ho]
  show bI S (sSe o.2 o.1) = _
  rw [hr']
  cases e : fmG (alS S0 nd nb hd D hr x (sSe o.2 o.1)) (wS S0 nd nb hd D hr x S (sSe o.2 o.1)) nd nd with
  | none => rfl
  | some d0 =>
    have := fmG_spec nd (Nat.le_refl _) d0 e
    have w := (al_o (S := S) ho this.2.1).2 this.2.2.1
    unfold mxG
    simp only []
    rw [w]
/-- the best order, as the reference finds it -/
abbrev oZ : oT := (0, fun _ => 0)
def oB (S0 : xSt) (nd nb hd D : Nat) (hr : Nat → Nat) (x : Int32) : oT := fk nd hr (fbS S0 nb x D hd) (visB hr (gS S0 nb x D hd)) nd oZ oZ
theorem oZ_ok : oOK nd oZ := fun j hj => absurd hj (Nat.not_lt_zero _)
theorem fol_b (h : BK S0 nd nb hd D hr x S) : fol nd hr (fbS S0 nb x D hd) (gS S0 nb x D hd) (Vb S) nd oZ = oB S0 nd nb hd D hr x := by
  have h1 := fk_fol (V_ok h) nd oZ oZ_ok (by show 0 + nd = nd; omega) oZ
  have h2 : visB hr (gS S0 nb x D hd) oZ oZ = oZ := by unfold visB; rw [if_neg (by omega)]
  rw [h2] at h1
  unfold oB
  rw [h1]
  by_cases c : oVal hr (gS S0 nb x D hd) oZ < oVal hr (gS S0 nb x D hd) oZ + Vb S oZ
  · rw [if_pos c]
  · rw [if_neg c]
    cases nd with
    | zero => rfl
    | succ n => rw [fol, if_pos (by omega)]
theorem val_b (h : BK S0 nd nb hd D hr x S) : oVal hr (gS S0 nb x D hd) (oB S0 nd nb hd D hr x) = bI S 0 := by
  have := val_fol (V_ok h) nd oZ oZ_ok (by show 0 + nd = nd; omega)
  rw [fol_b h] at this
  rw [this]
  show (1000 * ((0 : Nat) : Int) - ((0 : Nat) : Int)) + bI S 0 = bI S 0
  omega
theorem m_firstBest (hT : CT S0 nd nb hd hr) (h : BK S0 nd nb hd D hr x S) {o : oT} (ho : oOK nd o) (hp : 0 < Vb S o) {K : Int32 → xSt → Prop} (H : ∀ d0, fm nd hr (fbS S0 nb x D hd) (gS S0 nb x D hd) (Vb S) o nd = some d0 → K (nI d0) S) : M_Or_firstBestDeed hc d (nI (sSe o.2 o.1)) S K := by
  obtain ⟨d0, f1, f2⟩ := (V_ok h).pos ho hp
  have hnd := hT.1.2
  have p64 := pw64 hnd
  have hA := sSe_ok ho
  have ed : S.1 2 4 = nI nd := by rw [h.1.1 2 (by omega)]; exact hT.1.1
  have f3 := f1
  rw [fm_b ho] at f3
  obtain ⟨-, g2, g3, g4⟩ := fmG_spec nd (Nat.le_refl _) d0 f3
  have fV : bI S (sSe o.2 o.1) = wS S0 nd nb hd D hr x S (sSe o.2 o.1) d0 := by rw [(al_o (S := S) ho g2).2 g3]; exact f2
  have hp' : 0 < bI S (sSe o.2 o.1) := hp
  refine e_Or_firstBestDeed ?_
  have go : ∀ k i, i + k = d0 → B_Or_firstBestDeed_2 hc d (nI (sSe o.2 o.1)) (nI i) S K := by
    intro k
    induction k with
    | zero =>
      intro i hi
      have : i = d0 := by omega
      subst this
      refine b_Or_firstBestDeed_2 (br_f (by rw [ed]; exact nI_ge g2 (by omega)) (br_nt ((set_in _ (by omega) i (by omega)).mpr g3.1) (m_wonBy hT h.1 h.2.1 hA g2 (h.2.2 _ (or_lt6 hA g2)).1 (fun f => ?_) (fun f r hr' => ?_))))
      · have := g3.2; rw [f] at this; exact absurd this (by simp)
      · refine ⟨vIn (by omega) (by omega), br_nt ?_ (H i f1)⟩
        rw [nCl (by omega)]
        exact i32 (by rw [hr', ← fV])
    | succ k ih =>
      intro i hi
      have nx : B_Or_firstBestDeed_38 hc d (nI (sSe o.2 o.1)) (nI i) S K := b_Or_firstBestDeed_38 (by rw [nI_1]; exact ih (i + 1) (by omega))
      have tin := set_in (sSe o.2 o.1) (by omega) i (by omega)
      refine b_Or_firstBestDeed_2 (br_f (by rw [ed]; exact nI_ge (by omega) (by omega)) ?_)
      by_cases c : (sSe o.2 o.1).testBit i = false
      · refine br_nt (tin.mpr c) (m_wonBy hT h.1 h.2.1 hA (show i < nd by omega) (h.2.2 _ (or_lt6 hA (show i < nd by omega))).1 (fun f => ?_) (fun f r hr' => ?_))
        · refine ⟨vIn (by omega) (by omega), br_nf ?_ nx⟩
          rw [nCl (by omega)]
          intro z
          have : bI S (sSe o.2 o.1) = -1 := by
            show (S.1 49 (sSe o.2 o.1)).toInt = -1
            rw [← z]; decide
          omega
        · refine ⟨vIn (by omega) (by omega), br_nf ?_ nx⟩
          rw [nCl (by omega)]
          intro z
          have := g4 i (by omega) (by omega) ⟨c, f⟩
          rw [← hr', ← fV, z] at this
          have e : bI S (sSe o.2 o.1) = (S.1 49 (sSe o.2 o.1)).toInt := rfl
          omega
      · exact br_nf (fun z => c (tin.mp z)) nx
  exact go d0 0 (by omega)
/-- the class's order under way -/
def FI (S0 : xSt) (nd nb hd D : Nat) (hr : Nat → Nat) (x : Int32) (S : xSt) (o : oT) (q : xSt) : Prop := (∀ c, c ≠ 46 → c ≠ 51 → q.1 c = S.1 c) ∧ (∀ j, j < 9 → q.1 46 j = S.1 46 j) ∧ q.1 46 9 = nI o.1 ∧ q.1 46 10 = oKp (kvS S0 nb x D hd) hr o.2 o.1 ∧ ∀ j, j < o.1 → q.1 51 j = nI (o.2 j)
theorem m_followBest (hT : CT S0 nd nb hd hr) (h : BK S0 nd nb hd D hr x S) {K : xSt → Prop} (H : ∀ S', FI S0 nd nb hd D hr x S (oB S0 nd nb hd D hr x) S' → S'.1 46 11 = nI (oHrs hr (oB S0 nd nb hd D hr x).2 (oB S0 nd nb hd D hr x).1) → K S') : M_Or_followBest hc d S K := by
  have hnd := hT.1.2
  have p64 := pw64 hnd
  have hV := V_ok h
  refine e_Or_followBest ?_
  have fin : ∀ o q, oOK nd o → FI S0 nd nb hd D hr x S o q → o = oB S0 nd nb hd D hr x → B_Or_followBest_92 hc d (nI (sSe o.2 o.1)) q K := by
    intro o q ho hq eo
    have hA := sSe_ok ho
    obtain ⟨q1, q2, q3, q4, q5⟩ := hq
    refine b_Or_followBest_92 ⟨vIn (by omega) (by omega), ?_⟩
    rw [nCl (by omega), q1 48 (by decide) (by decide), h.1.2.2.2 _ hA, hSe_s o.1 ho]
    rw [← eo] at H
    refine H _ ⟨fun c c1 c2 => by rw [gI_ne _ _ _ c1]; exact q1 c c1 c2, fun j hj => by rw [gI_same, up_n _ _ (by omega)]; exact q2 j hj, q3, q4, q5⟩ ?_
    rw [gI_same, up_s]
  have go : ∀ n o, oOK nd o → o.1 + n = nd → fol nd hr (fbS S0 nb x D hd) (gS S0 nb x D hd) (Vb S) n o = oB S0 nd nb hd D hr x → ∀ q, FI S0 nd nb hd D hr x S o q → B_Or_followBest_14 hc d (nI (sSe o.2 o.1)) (nI o.1) q K := by
    intro n
    induction n with
    | zero =>
      intro o ho hl ef q hq
      have hA := sSe_ok ho
      have v0 : Vb S o = 0 := V_full hV ho (by omega)
      have ef' : o = oB S0 nd nb hd D hr x := ef
      refine b_Or_followBest_14 ?_
      by_cases c : (6 : Int32) ≤ nI o.1
      · exact br_t c (fin o q ho hq ef')
      · refine br_f c ⟨vIn (by omega) (by omega), br_t ?_ (fin o q ho hq ef')⟩
        rw [nCl (by omega), hq.1 49 (by decide) (by decide)]
        have : (S.1 49 (sSe o.2 o.1)).toInt = 0 := v0
        rw [Int32.le_iff_toInt_le, this]
        decide
    | succ n ih =>
      intro o ho hl ef q hq
      have hA := sSe_ok ho
      have o6 : o.1 < 6 := by omega
      refine b_Or_followBest_14 (br_f (nI_ge (b := 6) o6 (by omega)) ⟨vIn (by omega) (by omega), ?_⟩)
      rw [nCl (by omega), hq.1 49 (by decide) (by decide)]
      have eV : Vb S o = (S.1 49 (sSe o.2 o.1)).toInt := rfl
      have z0 : (0 : Int32).toInt = 0 := by decide
      rw [fol] at ef
      by_cases c : Vb S o ≤ 0
      · rw [if_pos c] at ef
        refine br_t ?_ (fin o q ho hq ef)
        rw [Int32.le_iff_toInt_le, ← eV, z0]; exact c
      · rw [if_neg c] at ef
        refine br_f ?_ ?_
        · rw [Int32.le_iff_toInt_le, ← eV, z0]; exact c
        have hbq : BK S0 nd nb hd D hr x q := h.fr hq.1 hq.2.1
        have vq : Vb q = Vb S := by
          funext o'
          show (q.1 49 _).toInt = (S.1 49 _).toInt
          rw [hq.1 49 (by decide) (by decide)]
        refine m_firstBest hT hbq ho (by rw [vq]; omega) (fun d0 hf => ?_)
        rw [vq] at hf
        rw [hf] at ef
        have ef : fol nd hr (fbS S0 nb x D hd) (gS S0 nb x D hd) (Vb S) n (oPush o d0) = oB S0 nd nb hd D hr x := ef
        obtain ⟨a1, a2⟩ := fm_al nd (Nat.le_refl _) d0 hf
        have hp : oOK nd (oPush o d0) := ho.push a1 a2.1
        have eo : nI (sSe o.2 o.1) ||| (1 : Int32) <<< (nI d0 &&& 31) = nI (sSe (oPush o d0).2 (oPush o d0).1) := by rw [sSe_p]; exact set_or _ (by omega) d0 (by omega)
        have hA2 := sSe_ok hp
        refine br_nf (nM1 (by omega)) ?_
        rw [eo, nCl (by omega), hbq.1.2.2.2 _ hA2, hSe_s _ hp, oHrs_p]
        refine ⟨vIn (by omega) (by omega), m_keptBy hT hbq.1 hbq.2.1 ?_⟩
        rw [a2.2, if_neg (by simp)]
        refine ⟨vIn (by omega) (by omega), ?_⟩
        obtain ⟨q1, q2, q3, q4, q5⟩ := hq
        rw [nI_1, nCl (by omega), q3, q4, nI_1]
        refine ih (oPush o d0) hp (by show o.1 + 1 + n = nd; omega) ef _ ⟨fun c c1 c2 => by rw [gI_ne _ _ _ c1, gI_ne _ _ _ c2, gI_ne _ _ _ c1]; exact q1 c c1 c2, fun j hj => ?_, ?_, ?_, fun j hj => ?_⟩
        · rw [gI_same, up_n _ _ (by omega), gI_ne _ _ _ (by decide), gI_same, up_n _ _ (by omega)]; exact q2 j hj
        · rw [gI_same, up_s]; rfl
        · rw [gI_same, up_n _ _ (by decide), gI_ne _ _ _ (by decide), gI_same, up_s]
          show _ = oKp _ hr (oPush o d0).2 o.1 ||| kvS S0 nb x D hd ((oPush o d0).2 o.1) (oHrs hr (oPush o d0).2 o.1 + hr ((oPush o d0).2 o.1))
          rw [oP_t, oKp_c o.1 (oP_b o d0), oHrs_c o.1 (oP_b o d0)]
        · have hj : j < o.1 + 1 := hj
          rw [gI_ne _ _ _ (by decide), gI_same]
          by_cases y : j = o.1
          · rw [y, up_s, oP_t]
          · rw [up_n _ _ y, oP_b o d0 j (by omega), gI_ne _ _ _ (by decide)]; exact q5 j (by omega)
  exact go nd oZ oZ_ok (by show 0 + nd = nd; omega) (fol_b h) _ ⟨fun c c1 c2 => by rw [gI_ne _ _ _ c1, gI_ne _ _ _ c1], fun j hj => by rw [gI_same, up_n _ _ (by omega), gI_same, up_n _ _ (by omega)], rfl, rfl, fun j hj => absurd hj (Nat.not_lt_zero _)⟩
end
end
