section
variable {hc hm : xH} {d e : Nat} {S M : xSt}
/-- the reference behind a unit, ahead of one -/
abbrev WJ (hm : xH) (e : Nat) (M : xSt) (K : xSt → Prop) : Prop := B_M_readWear_30 hm e 1 M K
def UJ (hm : xH) (e : Nat) (M : xSt) (K : xSt → Prop) : Prop := ∀ K2 : xSt → Prop, (∀ M2, WJ hm e M2 K → K2 M2) → B_M_unit_2 hm e 1 M K2
theorem wfault (hb : Bad M) {K : xSt → Prop} (H : K M) : WJ hm e M K := b_M_readWear_30 (br_f (by decide) (br_nf hb.2 (b_M_readWear_157 (br_nf hb.2 (b_M_readWear_176 (br_nf hb.2 H))))))
theorem u101 (hb : Bad M) {K K2 : xSt → Prop} (g : ∀ M2, WJ hm e M2 K → K2 M2) (H : K M) : B_M_unit_101 hm e M K2 := b_M_unit_101 (br_f hb.1 (g M (wfault hb H)))
theorem ufault (hb : Bad M) {K K2 : xSt → Prop} (g : ∀ M2, WJ hm e M2 K → K2 M2) (H : K M) : B_M_unit_2 hm e 1 M K2 := b_M_unit_2 (br_f (by decide) (br_nf hb.2 (u101 hb g H)))
theorem sgn_s {k v : Nat} (h : sgn k v ≠ 0) : sgn k v ∈ opL ∧ ((k = 3 ∧ ((v = 20 ∧ sgn k v = 38) ∨ (v = 19 ∧ sgn k v = 124))) ∨ (k = 5 ∧ v ≠ 41 ∧ sgn k v = v)) := by
  revert h
  unfold sgn
  repeat' split
  all_goals (intro h)
  all_goals (first | (rename_i c; exact ⟨by decide, Or.inl ⟨c.1, Or.inl ⟨c.2, rfl⟩⟩⟩) | (rename_i c; exact ⟨by decide, Or.inl ⟨c.1, Or.inr ⟨c.2, rfl⟩⟩⟩) | (rename_i c; exact ⟨by decide, Or.inr ⟨c.1, by omega, c.2.symm⟩⟩) | exact absurd rfl h)
section
variable {t : Nat → Nat} {n k v q p : Nat} {l : List Nat}
theorem putC {cs : List Nat} {u c : Nat} (h : FC cs u S) (hl : cs.length < 300) : ∃ S', (∀ hc d K, K S' → M_Wr_put_34 hc d (nI c) S K) ∧ FC (cs ++ [c]) u S' ∧ GC S S' ∧ S'.1 19 = S.1 19 ∧ S'.1 1 = S.1 1 ∧ S'.2 = S.2 := by
  obtain ⟨h1, h2, h3⟩ := h
  refine ⟨x_putI (x_putI S 35 cs.length (nI c)) 34 1 (nI (cs.length + 1)), fun hc d K H => e_Wr_put_34 ?_, ⟨?_, fun i c' hi => ?_, ?_⟩, ⟨fun c' _ g1 g2 => by rw [gI_ne _ _ _ g1, gI_ne _ _ _ g2], fun _ _ => rfl⟩, rfl, rfl, rfl⟩
  · rw [h1, nCl (by omega), nI_1]
    exact br_f (nI_ge (b := 300) hl (by omega)) ⟨vIn (by omega) (by omega), H⟩
  · rw [gI_same, up_s]; simp
  · rw [gI_ne _ _ _ (by decide), gI_same]
    by_cases y : i = cs.length
    · rw [y, up_s]
      rw [y] at hi
      have : c = c' := by simpa using hi
      rw [this]
    · rw [up_n _ _ y]
      refine h2 i c' ?_
      by_cases z : i < cs.length
      · rw [List.getElem?_append_left z] at hi; exact hi
      · rw [List.getElem?_eq_none (by simp; omega)] at hi; exact absurd hi (by simp)
  · rw [gI_same, up_n _ _ (by decide)]; exact h3
theorem QJ.zm {M' : xSt} (h : QJ t n k v l q p S M) (z : ZM M M') : QJ t n k v l q p S M' := by
  have zj : ∀ j, 2 ≤ j → j ≤ 8 → j ∉ [17, 19, 20, 22, 23] := fun j h1 h2 hj => by simp only [List.mem_cons, List.mem_nil_iff, or_false] at hj; omega
  exact h.fr rfl rfl rfl rfl (z.1 1 (by decide)) (fun j h1 h2 => z.2.1 j (zj j h1 h2)) (by rw [z.2.2])
/-- a sign is pushed -/
theorem pushJ (h : QJ t n k v l q p S M) {o r dl u : Nat} {os pend st : List Nat} (ho : sgn k v = o) (h0 : o ≠ 0) (hr : tt o = r) (hF : FM os (pend ++ st) (dl + nots pend) u M) (hp : ∀ o, o ∈ pend → okp o ∧ r ≤ tt o) (h4 : r = 4 → ∀ o, o ∈ pend → 5 ≤ tt o) (hs : tp r st) (b1 : os.length + pend.length ≤ 300) (b2 : (pend ++ st).length ≤ 100) (b3 : dl + nots pend ≤ 100) : ∃ S1 M1 k1 v1 l1 q1 p1, (∀ K, K S1 → M_Tk_advance hc d S K) ∧ (∀ K, UJ hm e M1 K → WJ hm e M K) ∧ fT S S1 ∧ GM M M1 ∧ QJ t n k1 v1 l1 q1 p1 S1 M1 ∧ q ≤ q1 ∧ k1 ≤ 5 ∧ FM (os ++ pend.map cod) (o :: st) dl u M1 := by
  obtain ⟨s1, s2⟩ := sgn_s (k := k) (v := v) (by rw [ho]; exact h0)
  rw [ho] at s1 s2
  have hok : okp o := Or.inr s1
  have hob := okp_b hok
  have tb := tt_b o
  have f0 := h.2.f0
  have hk : 2 ≤ k := by omega
  obtain ⟨M1, a1, a2, a3⟩ := closeM (hm := hm) (e := e + 2) (r := r) (u := u) (by omega) hs pend os dl M hF hp b1 (by omega) b3
  have hl : st.length ≤ 100 := by rw [List.length_append] at b2; omega
  obtain ⟨g1, g2, g3, g4, g5, g6, g7, g8⟩ := a2
  have F2 : FM (os ++ pend.map cod) (o :: st) dl u (x_putI (x_putI M1 7 st.length (nI o)) 0 19 (nI (st.length + 1))) := ⟨by rw [gI_same, up_n _ _ (by decide)]; exact g1, g2, by rw [gI_same, up_n _ _ (by decide)]; exact g3, by rw [gI_same, up_n _ _ (by decide)]; exact g4, by rw [gI_same, up_s]; simp, ⟨by rw [gI_ne _ _ _ (by decide), gI_same, up_s], by rw [gI_ne _ _ _ (by decide), gI_same]; exact stk_up g6 (Nat.le_refl _)⟩, by rw [gI_same, up_n _ _ (by decide)]; exact g7, fun x hx => by
    rcases List.mem_cons.mp hx with y | y
    · rw [y]; exact Or.inr hok
    · exact g8 x y⟩
  have z2 : ZM M (x_putI (x_putI M1 7 st.length (nI o)) 0 19 (nI (st.length + 1))) := a3.tr ((ZM.p (by omega)).tr (ZM.p0 (by decide)))
  obtain ⟨S1, M2, k1, v1, l1, q1, p1, c1, c2, c3, c4, c5, c6, c7⟩ := advJ (hc := hc) (d := d) (hm := hm) (e := e + 2) (h.zm z2) hk
  have qp := (h.1.2.2.2.2.2.2 hk).2.2.1
  refine ⟨S1, M2, k1, v1, l1, q1, p1, c1, fun K H => ?_, c3, z2.g.tr c4.g, c5, by omega, c7, F2.t c4⟩
  have hF5 := hF.2.2.2.2.1
  have hF6 := hF.2.2.2.2.2.1
  have n41 : ¬ M.1 0 6 = 41 := fun z => by
    have := (tk_sign h.1.2.2.2.2.2.1 (w := 41) (by decide)).2.mp z
    rcases s2 with s2 | s2
    · omega
    · omega
  have no : ¬ nI o = 0 := fun z => h0 ((nEq (b := 0) (by omega) (by omega)).mp z)
  have B : B_M_readWear_113 hm e 1 (nI o) M K := by
    refine b_M_readWear_113 (tightM hok ?_)
    rw [hr]
    refine e_M_close (a1 _ ?_)
    rw [g5, nCl (by omega), nI_1]
    exact ⟨vIn (by omega) (by omega), c2 _ (e_M_unit (H _ (fun M2 w => b_M_readWear_154 w)))⟩
  refine b_M_readWear_30 (br_f (by decide) (br_nt f0.2 (signM h ?_)))
  rw [ho]
  refine br_nf n41 (b_M_readWear_94 (br_f no (tightM hok ?_)))
  rw [hr]
  by_cases y : r = 4
  · refine br_nt (by rw [y]; rfl) (e_M_hasRelation ?_)
    rw [hF5]
    exact hasR0 (by rw [← y]; exact hs) pend (by omega) hF6 (fun x hx => ⟨(hp x hx).1, h4 y x hx⟩) _ (br_nt rfl B)
  · exact br_nf (fun z => y ((nEq (b := 4) (by omega) (by omega)).mp z)) B
/-- the loop is left -/
theorem exitJ (h : QJ t n k v l q p S M) {os st : List Nat} {dp u : Nat} (hF : FM os st dp u M) (hl : st.length ≤ 160) (h41 : ¬ (k = 5 ∧ v = 41) ∨ 20 ∉ st) (hs : sgn k v = 0 ∨ (tt (sgn k v) = 4 ∧ hasR st)) {K : xSt → Prop} (H : B_M_readWear_157 hm e M K) : WJ hm e M K := by
  have f0 := h.2.f0
  have B : B_M_readWear_94 hm e 1 (nI (sgn k v)) M K := by
    have B2 : B_M_readWear_152 hm e M K := b_M_readWear_152 (b_M_readWear_154 (b_M_readWear_30 (br_t rfl H)))
    rcases hs with hs | ⟨hs, hs2⟩
    · rw [hs]; exact b_M_readWear_94 (br_t rfl B2)
    · by_cases y : sgn k v = 0
      · rw [y]; exact b_M_readWear_94 (br_t rfl B2)
      · have ok : okp (sgn k v) := Or.inr (sgn_s y).1
        have hob := okp_b ok
        refine b_M_readWear_94 (br_f (fun z => y ((nEq (b := 0) (by omega) (by omega)).mp z)) (tightM ok ?_))
        rw [hs]
        refine br_nt rfl (e_M_hasRelation ?_)
        rw [hF.2.2.2.2.1]
        exact hasR1 st hl hF.2.2.2.2.2.1 hs2 _ (br_nf (by decide) B2)
  refine b_M_readWear_30 (br_f (by decide) (br_nt f0.2 (signM h ?_)))
  by_cases y : k = 5 ∧ v = 41
  · rcases h41 with h41 | h41
    · exact absurd y h41
    · refine br_nt ((tk_sign h.1.2.2.2.2.2.1 (w := 41) (by decide)).2.mpr y) (brkM hl hF.2.2.2.2.1 hF.2.2.2.2.2.1 hF.2.2.2.2.2.2.2 ?_)
      rw [if_neg h41]
      exact br_t rfl B
  · exact br_nf (fun z => y ((tk_sign h.1.2.2.2.2.2.1 (w := 41) (by decide)).2.mp z)) B
def av (k v : Nat) : Int32 := if k = 3 ∧ v = 12 then 0 else if k = 3 ∧ v = 2 then 1 else if k = 3 ∧ v = 17 then 2 else if k = 3 ∧ v = 16 then 3 else -1
def cv (k v : Nat) : Int32 := if k = 3 ∧ v = 12 then 116 else if k = 3 ∧ v = 2 then 104 else if k = 3 ∧ v = 17 then 115 else if k = 3 ∧ v = 16 then 100 else -1
theorem askM (h : QJ t n k v l q p S M) {K : Int32 → xSt → Prop} (H : K (av k v) M) : M_M_asked hm e M K := by
  have tk := h.1.2.2.2.2.2.1
  have w := fun w hw => (tk_word tk (w := w) hw).2
  have w12 := w 12 (by omega)
  have w2 := w 2 (by omega)
  have w17 := w 17 (by omega)
  have w16 := w 16 (by omega)
  rw [← kc12] at w12
  rw [← kc2] at w2
  rw [← kc17] at w17
  rw [← kc16] at w16
  refine m_M_asked ?_
  unfold av at H
  by_cases s : M.1 0 6 = 1
  · rw [if_pos s]
    have i12 : M.2.1 0 9 = 127991944667492 ↔ (k = 3 ∧ v = 12) := ⟨fun z => w12.mp ⟨s, z⟩, fun z => (w12.mpr z).2⟩
    have i2 : M.2.1 0 9 = 448545973619 ↔ (k = 3 ∧ v = 2) := ⟨fun z => w2.mp ⟨s, z⟩, fun z => (w2.mpr z).2⟩
    have i17 : M.2.1 0 9 = 495874699885 ↔ (k = 3 ∧ v = 17) := ⟨fun z => w17.mp ⟨s, z⟩, fun z => (w17.mpr z).2⟩
    have i16 : M.2.1 0 9 = 6578553 ↔ (k = 3 ∧ v = 16) := ⟨fun z => w16.mp ⟨s, z⟩, fun z => (w16.mpr z).2⟩
    simp only [i12, i2, i17, i16]
    exact H
  · rw [if_neg s]
    rw [if_neg (fun z => s (w12.mpr z).1), if_neg (fun z => s (w2.mpr z).1), if_neg (fun z => s (w17.mpr z).1), if_neg (fun z => s (w16.mpr z).1)] at H
    exact H
theorem inC (h : QJ t n k v l q p S M) {K : Int32 → xSt → Prop} (H : K (cv k v) S) : M_Fr_inputSign hc d S K := by
  have tk := h.1.2.2.2.2.2.1
  have w := fun w hw => (tk_word tk (w := w) hw).1
  have w12 := w 12 (by omega)
  have w2 := w 2 (by omega)
  have w17 := w 17 (by omega)
  have w16 := w 16 (by omega)
  unfold cv at H
  refine e_Fr_inputSign ?_
  by_cases s : S.1 19 4 = 3
  · refine br_nt s (b_Fr_inputSign_22 ⟨fun z => ?_, fun z => ?_, fun z => ?_, fun z => ?_, fun z1 z2 z3 z4 => ?_⟩)
    · have c := w2.mp ⟨s, z⟩
      rw [if_neg (by omega), if_pos c] at H; exact H
    · have c := w12.mp ⟨s, z⟩
      rw [if_pos c] at H; exact H
    · have c := w16.mp ⟨s, z⟩
      rw [if_neg (by omega), if_neg (by omega), if_neg (by omega), if_pos c] at H; exact H
    · have c := w17.mp ⟨s, z⟩
      rw [if_neg (by omega), if_neg (by omega), if_pos c] at H; exact H
    · rw [if_neg (fun z => z2 (w12.mpr z).2), if_neg (fun z => z1 (w2.mpr z).2), if_neg (fun z => z4 (w17.mpr z).2), if_neg (fun z => z3 (w16.mpr z).2)] at H; exact H
  · rw [if_neg (fun z => s (w12.mpr z).1), if_neg (fun z => s (w2.mpr z).1), if_neg (fun z => s (w17.mpr z).1), if_neg (fun z => s (w16.mpr z).1)] at H
    exact br_nf s (b_Fr_inputSign_22 ⟨fun z => absurd z (by decide), fun z => absurd z (by decide), fun z => absurd z (by decide), fun z => absurd z (by decide), fun _ _ _ _ => H⟩)
/-- no not is taken here -/
def NN (k v : Nat) (st : List Nat) : Prop := ¬ (k = 3 ∧ v = 21) ∨ ∃ o s, st = o :: s ∧ okp o ∧ 4 ≤ tt o
theorem uNN (h : QJ t n k v l q p S M) {os st : List Nat} {dp u : Nat} (hF : FM os st dp u M) (hl : st.length ≤ 160) (nn : NN k v st) {K2 : xSt → Prop} (H : B_M_unit_53 hm e 1 M K2) : B_M_unit_2 hm e 1 M K2 := by
  have f0 := h.2.f0
  refine b_M_unit_2 (br_f (by decide) (br_nt f0.2 (wordM (w := 21) h (by omega) kc21 ?_)))
  by_cases y : k = 3 ∧ v = 21
  · rw [if_pos y]
    rcases nn with nn | ⟨o, s, rfl, n1, n2⟩
    · exact absurd y nn
    · exact br_f (by decide) (mayN0 n1 n2 hl hF.2.2.2.2.1 hF.2.2.2.2.2.1 (br_t rfl H))
  · rw [if_neg y]; exact br_t rfl H
end
end
