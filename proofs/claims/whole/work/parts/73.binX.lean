section
variable {hc hm : xH} {e : Nat}
theorem sg6 {k v : Nat} : (sgn k v ≠ 0 ∧ tt (sgn k v) = 6) ↔ (k = 5 ∧ (v = 42 ∨ v = 47 ∨ v = 37)) := by
  unfold sgn
  repeat' split
  all_goals (constructor <;> intro h <;> first | omega | exact absurd h.2 (by decide) | exact ⟨by decide, by decide⟩ | exact absurd rfl h.1)
theorem sg5 {k v : Nat} : (sgn k v ≠ 0 ∧ tt (sgn k v) = 5) ↔ (k = 5 ∧ (v = 43 ∨ v = 45)) := by
  unfold sgn
  repeat' split
  all_goals (constructor <;> intro h <;> first | omega | exact absurd h.2 (by decide) | exact ⟨by decide, by decide⟩ | exact absurd rfl h.1)
theorem sg4 {k v : Nat} : (sgn k v ≠ 0 ∧ tt (sgn k v) = 4) ↔ (k = 5 ∧ (v = 60 ∨ v = 62 ∨ v = 61)) := by
  unfold sgn
  repeat' split
  all_goals (constructor <;> intro h <;> first | omega | exact absurd h.2 (by decide) | exact ⟨by decide, by decide⟩ | exact absurd rfl h.1)
theorem sg2 {k v : Nat} : (sgn k v ≠ 0 ∧ tt (sgn k v) = 2) ↔ (k = 3 ∧ v = 20) := by
  unfold sgn
  repeat' split
  all_goals (constructor <;> intro h <;> first | omega | exact absurd h.2 (by decide) | exact ⟨by decide, by decide⟩ | exact absurd rfl h.1)
theorem sg1 {k v : Nat} : (sgn k v ≠ 0 ∧ tt (sgn k v) = 1) ↔ (k = 3 ∧ v = 19) := by
  unfold sgn
  repeat' split
  all_goals (constructor <;> intro h <;> first | omega | exact absurd h.2 (by decide) | exact ⟨by decide, by decide⟩ | exact absurd rfl h.1)
theorem sg3 {k v : Nat} (h : sgn k v ≠ 0) : tt (sgn k v) ≠ 3 := by
  have : ∀ o, o ∈ opL → tt o ≠ 3 := by decide
  exact this _ (sgn_s h).1
theorem sgv {k v : Nat} (h : sgn k v ≠ 0) (h5 : k = 5) : sgn k v = v := by
  rcases (sgn_s h).2 with c | c
  · omega
  · exact c.2.2
theorem no_r {k v r : Nat} (h : sgn k v = 0 ∨ tt (sgn k v) ≠ r) : ¬ (sgn k v ≠ 0 ∧ tt (sgn k v) = r) := fun z => by
  rcases h with h | h
  · exact z.1 h
  · exact h z.2
section
variable {t : Nat → Nat} {n : Nat}
theorem PT.w {dl L L' sl sl' u0 b b' k v u : Nat} {st cs0 pend : List Nat} {S M : xSt} (h : PT t n dl L sl st cs0 u0 b k v pend u S M) (hL : L' ≤ L) (hs : sl' ≤ sl) (hb : b' ≤ b) : PT t n dl L' sl' st cs0 u0 b' k v pend u S M := by
  obtain ⟨l, q, p, w, os, y1, y2, y3, y4, y5, y6, y7, y8, y9, y10, y11, y12, y13⟩ := h
  exact ⟨l, q, p, w, os, y1, by omega, y3, y4, y5, y6, y7, y8, by omega, y10, fun o ho => ⟨(y11 o ho).1, by have := (y11 o ho).2; omega⟩, y12, y13⟩
theorem tp.w {L L' : Nat} {st : List Nat} (h : tp L st) (hL : L ≤ L') : tp L' st := fun o s' he => by
  rcases h o s' he with c | c
  · exact Or.inl c
  · exact Or.inr ⟨c.1, by omega⟩
theorem binJ {r Lp2 sl2 sl dl need : Nat} {P PX : Nat → xSt → (Int32 → xSt → Prop) → Prop} {B : Nat → Nat → xSt → (Int32 → xSt → Prop) → Prop} (hdl : dl ≤ 7) (hr : 1 ≤ r) (hr4 : r ≠ 4) (hr3 : r ≠ 3) (h12 : r < Lp2) (hsl : sl ≤ sl2) (hnn : 5 ≤ Lp2 → 5 ≤ r) (hY : FX hm e t n Lp2 (r + 1) sl2 dl need (nxt (r + 1)) P)
    (ent : ∀ d S K, P d S (fun r1 S1 => ((¬ r1 = 0 → B d 0 S1 K) ∧ (r1 = 0 → K 0 S1))) → PX (d + 1) S K)
    (stop : ∀ d k v l q p S M x K, QJ t n k v l q p S M → x < 30 → (sgn k v = 0 ∨ tt (sgn k v) ≠ r) → K 1 S → B d x S K)
    (step : ∀ d k v l q p S M x K, QJ t n k v l q p S M → x < 30 → sgn k v ≠ 0 → tt (sgn k v) = r → M_Tk_advance hc (d + 3) S (fun S2 => P d S2 (fun r3 S3 => ((¬ r3 = 0 → M_Wr_put_34 hc (d + 12) (nI (sgn k v)) S3 (fun S4 => B d (x + 1) S4 K)) ∧ (r3 = 0 → K 0 S3)))) → B d x S K) : FX hm e t n r r sl dl (need + 1) (nxt r) PX := by
  intro d k v l q p S M cs st u hd h hk hC hF hu hcs hl htp hN
  obtain ⟨d', rfl⟩ : ∃ d', d = d' + 1 := ⟨d - 1, by omega⟩
  rcases hY d' k v l q p S M cs st u (by omega) h hk hC hF hu hcs hl (htp.w (by omega)) (fun z => hN (hnn z)) with ⟨S1, M1, k1, v1, pend, u1, a1, a2, a3, a4, a5, a6⟩ | ⟨S1, M1, a1, a2, a3, a4, a5⟩
  · have u1' : u < u1 := by
      obtain ⟨l, q, p, w, os, y1, y2, y3, y4, y5, y6, y7, y8⟩ := a5
      exact y7
    rcases loopJ (hc := hc) (hm := hm) (e := e) (B := B d') d' hdl hr hr4 hr3 h12 hsl (fun z => by have := hnn z; omega) hY (by omega) (stop d') (step d') (b := q) htp hcs hl (30 - u1) k1 v1 pend u1 0 S1 M1 (Nat.le_refl _) (by omega) (a5.w (by omega) hsl (Nat.le_refl _)) a6 with ⟨S2, M2, k2, v2, pend2, u2, b1, b2, b3, b4, b5, b6⟩ | ⟨S2, M2, b1, b2, b3, b4, b5⟩
    · exact Or.inl ⟨S2, M2, k2, v2, pend2, u2, fun K H => ent d' S K (a1 _ (br_nf (by decide) (b1 K H))), fun K H => a2 K (b2 K H), a3.tr b3, a4.tr b4, b5, b6⟩
    · exact Or.inr ⟨S2, M2, fun K H => ent d' S K (a1 _ (br_nf (by decide) (b1 K H))), fun K H => a2 K (b2 K H), a3.tr b3, a4.tr b4, b5⟩
  · exact Or.inr ⟨S1, M1, fun K H => ent d' S K (a1 _ (br_nt rfl H)), a2, a3, a4, a5⟩
theorem valC {k v q p : Nat} {l : List Nat} {S M : xSt} (h : QJ t n k v l q p S M) (hs : sgn k v ≠ 0) (h5 : k = 5) (hv : v ∈ sgL) : S.1 19 5 = nI (sgn k v) := by
  rw [sgv hs h5]
  exact ((tk_sign h.1.2.2.2.2.2.1 hv).1.mpr ⟨h5, rfl⟩).2
theorem termJ {dl : Nat} (hdl : dl ≤ 7) (hU : FX hm e t n 7 7 7 dl (7 * (8 - dl) - 5) (nxt 7) (fun d S K => M_Fr_readUnit hc d (nI dl) S K)) : FX hm e t n 6 6 7 dl (7 * (8 - dl) - 5 + 1) (nxt 6) (fun d S K => M_Fr_readTerm hc d (nI dl) S K) := by
  refine binJ (hc := hc) (B := fun d x S K => B_Fr_readTerm_12 hc d (nI dl) (nI x) S K) hdl (by omega) (by omega) (by omega) (by omega) (Nat.le_refl _) (by omega) hU (fun d S K H => e_Fr_readTerm H) (fun d k v l q p S M x K h hx hn H => ?_) (fun d k v l q p S M x K h hx h0 h6 H => ?_)
  · have tk := h.1.2.2.2.2.2.1
    refine b_Fr_readTerm_12 (br_f (nI_ge (b := 30) hx (by omega)) (m_Fr_isTermSign ?_))
    rw [bi_neg]
    · exact br_t rfl H
    · intro z
      refine no_r hn (sg6.mpr ?_)
      rcases z with z | z | z
      · exact ⟨((tk_sign tk (w := 42) (by decide)).1.mp z).1, Or.inl ((tk_sign tk (w := 42) (by decide)).1.mp z).2⟩
      · exact ⟨((tk_sign tk (w := 47) (by decide)).1.mp z).1, Or.inr (Or.inl ((tk_sign tk (w := 47) (by decide)).1.mp z).2)⟩
      · exact ⟨((tk_sign tk (w := 37) (by decide)).1.mp z).1, Or.inr (Or.inr ((tk_sign tk (w := 37) (by decide)).1.mp z).2)⟩
  · have tk := h.1.2.2.2.2.2.1
    obtain ⟨k5, hv⟩ := sg6.mp ⟨h0, h6⟩
    have val := valC h h0 k5 (by rcases hv with rfl | rfl | rfl <;> decide)
    refine b_Fr_readTerm_12 (br_f (nI_ge (b := 30) hx (by omega)) (m_Fr_isTermSign ?_))
    rw [bi_pos]
    · refine br_f (by decide) ?_
      rw [val, nI_1]; exact H
    · rcases hv with y | y | y
      · exact Or.inl ((tk_sign tk (w := 42) (by decide)).1.mpr ⟨k5, y⟩)
      · exact Or.inr (Or.inl ((tk_sign tk (w := 47) (by decide)).1.mpr ⟨k5, y⟩))
      · exact Or.inr (Or.inr ((tk_sign tk (w := 37) (by decide)).1.mpr ⟨k5, y⟩))
theorem sumJ {dl need : Nat} (hdl : dl ≤ 7) (hU : FX hm e t n 6 6 7 dl need (nxt 6) (fun d S K => M_Fr_readTerm hc d (nI dl) S K)) : FX hm e t n 5 5 7 dl (need + 1) (nxt 5) (fun d S K => M_Fr_readSum hc d (nI dl) S K) := by
  refine binJ (hc := hc) (B := fun d x S K => B_Fr_readSum_12 hc d (nI dl) (nI x) S K) hdl (by omega) (by omega) (by omega) (by omega) (Nat.le_refl _) (by omega) hU (fun d S K H => e_Fr_readSum H) (fun d k v l q p S M x K h hx hn H => ?_) (fun d k v l q p S M x K h hx h0 h6 H => ?_)
  · have n5 := fun z => no_r hn (sg5.mpr z)
    refine b_Fr_readSum_12 (br_f (nI_ge (b := 30) hx (by omega)) (signC (w := 43) h (by decide) ?_))
    rw [if_neg (fun z => n5 ⟨z.1, Or.inl z.2⟩)]
    refine br_nt rfl (signC (w := 45) h (by decide) ?_)
    rw [if_neg (fun z => n5 ⟨z.1, Or.inr z.2⟩)]
    exact br_t rfl H
  · obtain ⟨k5, hv⟩ := sg5.mp ⟨h0, h6⟩
    have val := valC h h0 k5 (by rcases hv with rfl | rfl <;> decide)
    have B : B_Fr_readSum_42 hc d (nI dl) (nI x) S K := by
      refine b_Fr_readSum_42 ?_
      rw [val, nI_1]; exact H
    refine b_Fr_readSum_12 (br_f (nI_ge (b := 30) hx (by omega)) (signC (w := 43) h (by decide) ?_))
    by_cases y : k = 5 ∧ v = 43
    · rw [if_pos y]; exact br_nf (by decide) B
    · rw [if_neg y]
      refine br_nt rfl (signC (w := 45) h (by decide) ?_)
      rw [if_pos (by omega)]
      exact br_f (by decide) B
theorem bothJ {dl need : Nat} (hdl : dl ≤ 7) (hU : FX hm e t n 4 3 dl dl need (nxt 3) (fun d S K => M_Fr_readOne hc d (nI dl) S K)) : FX hm e t n 2 2 0 dl (need + 1) (nxt 2) (fun d S K => M_Fr_readBoth hc d (nI dl) S K) := by
  refine binJ (hc := hc) (B := fun d x S K => B_Fr_readBoth_12 hc d (nI dl) (nI x) S K) hdl (by omega) (by omega) (by omega) (by omega) (Nat.zero_le _) (by omega) hU (fun d S K H => e_Fr_readBoth H) (fun d k v l q p S M x K h hx hn H => ?_) (fun d k v l q p S M x K h hx h0 h6 H => ?_)
  · refine b_Fr_readBoth_12 (br_f (nI_ge (b := 30) hx (by omega)) (wordC (w := 20) h (by omega) ?_))
    rw [if_neg (fun z => no_r hn (sg2.mpr z))]
    exact br_t rfl H
  · have y := sg2.mp ⟨h0, h6⟩
    have sv : sgn k v = 38 := by unfold sgn; rw [if_pos y]
    refine b_Fr_readBoth_12 (br_f (nI_ge (b := 30) hx (by omega)) (wordC (w := 20) h (by omega) ?_))
    rw [if_pos y]
    refine br_f (by decide) ?_
    rw [nI_1]
    rw [sv] at H
    exact H
theorem eitherJ {dl need : Nat} (hdl : dl ≤ 7) (hU : FX hm e t n 2 2 0 dl need (nxt 2) (fun d S K => M_Fr_readBoth hc d (nI dl) S K)) : FX hm e t n 1 1 0 dl (need + 1) (nxt 1) (fun d S K => M_Fr_readEither hc d (nI dl) S K) := by
  refine binJ (hc := hc) (B := fun d x S K => B_Fr_readEither_12 hc d (nI dl) (nI x) S K) hdl (by omega) (by omega) (by omega) (by omega) (Nat.zero_le _) (by omega) hU (fun d S K H => e_Fr_readEither H) (fun d k v l q p S M x K h hx hn H => ?_) (fun d k v l q p S M x K h hx h0 h6 H => ?_)
  · refine b_Fr_readEither_12 (br_f (nI_ge (b := 30) hx (by omega)) (wordC (w := 19) h (by omega) ?_))
    rw [if_neg (fun z => no_r hn (sg1.mpr z))]
    exact br_t rfl H
  · have y := sg1.mp ⟨h0, h6⟩
    have sv : sgn k v = 124 := by unfold sgn; rw [if_neg (by omega), if_pos y]
    refine b_Fr_readEither_12 (br_f (nI_ge (b := 30) hx (by omega)) (wordC (w := 19) h (by omega) ?_))
    rw [if_pos y]
    refine br_f (by decide) ?_
    rw [nI_1]
    rw [sv] at H
    exact H
end
end
