section
theorem Row.state {nb : Nat} {f g : Nat → Int32} (h : Row nb f g) (hb : nb ≤ 10) {b : Nat} (hlt : b < nb) (v : Int32) : Row nb (upd f b v) (upd g b v) := by
  obtain ⟨h1, h2, h3, h4, h5, h6⟩ := h
  refine ⟨fun j q => ?_, ?_, ?_, ?_, ?_, ?_⟩
  · rw [up_n f _ (show 10 + j ≠ b by omega), up_n g _ (show 10 + j ≠ b by omega)]
    obtain ⟨a1, a2, a3⟩ := h1 j q
    refine ⟨?_, a2, a3⟩
    by_cases hj : j = b
    · subst hj; rw [up_s, up_s]
    · rw [up_n _ _ hj, up_n _ _ hj]; exact a1
  · rw [up_n f _ (by omega), up_n g _ (by omega)]; exact h2
  · rw [up_n f _ (by omega), up_n g _ (by omega)]; exact h3
  · rw [up_n f _ (by omega), up_n g _ (by omega)]; exact h4
  · rw [up_n f _ (by omega)]; exact h5
  · rw [up_n f _ (by omega)]; exact h6
theorem Row.thread {nb : Nat} {f g : Nat → Int32} (h : Row nb f g) (hb : nb ≤ 10) {b : Nat} (hlt : b < nb) {v : Int32} (hv : ∃ k, k ≤ 99 ∧ v = nI k) : Row nb (upd f (10 + b) v) (upd g (10 + b) v) := by
  obtain ⟨h1, h2, h3, h4, h5, h6⟩ := h
  refine ⟨fun j q => ?_, ?_, ?_, ?_, ?_, ?_⟩
  · obtain ⟨a1, a2, a3⟩ := h1 j q
    rw [up_n f _ (show j ≠ 10 + b by omega), up_n g _ (show j ≠ 10 + b by omega)]
    refine ⟨a1, ?_, ?_⟩
    · by_cases hj : j = b
      · subst hj; rw [up_s, up_s]
      · rw [up_n _ _ (by omega), up_n _ _ (by omega)]; exact a2
    · by_cases hj : j = b
      · subst hj; rw [up_s]; exact hv
      · rw [up_n _ _ (by omega)]; exact a3
  · rw [up_n f _ (by omega), up_n g _ (by omega)]; exact h2
  · rw [up_n f _ (by omega), up_n g _ (by omega)]; exact h3
  · rw [up_n f _ (by omega), up_n g _ (by omega)]; exact h4
  · rw [up_n f _ (by omega)]; exact h5
  · rw [up_n f _ (by omega)]; exact h6
variable {hc hm : xH} {d e : Nat} {S M : xSt}
/-- an act: the class changes what is now to f and adds it, the reference adds it and changes to g -/
theorem act2 {nm nd nb nf hd st : Nat} (hc hm : xH) (hR : RelP nm nd nb nf hd st S M) : ∃ M1 : xSt, (∀ (e : Nat) (K : xSt → Prop), K M1 → M_M_act hm e M K) ∧ (∀ c, c ≠ 0 → c ≠ 35 → M1.1 c = M.1 c) ∧ (∀ j, j ≠ 69 → j ≠ 70 → M1.1 0 j = M.1 0 j) ∧ ∀ f g : Nat → Int32, Row nb f g → ∃ S2 : xSt, (∀ (d : Nat) (K : xSt → Prop), K S2 → M_Hi_addAct hc d (x_putA S 42 f) K) ∧ S2.1 42 = f ∧ RelP nm nd nb nf hd st S2 (x_putA M1 34 g) := by
  have hR0 := hR
  obtain ⟨hT, hM, hW, hN, ⟨dn, kn, h1, h2, e1, e2, e3, e4, r1, r2, r3⟩, hB, hG, hL, hF, hA⟩ := hR
  have hb : nb ≤ 10 := hT.2.2.1.2
  obtain ⟨M1, sm, a1, a2, a3, a4, a5, a6, a7, a8⟩ := m_M_act (hm := hm) (M := M) e3 (by omega)
  refine ⟨M1, a1, a2, a3, fun f g hrow => ?_⟩
  obtain ⟨S2, sc, b1, b2, b3, b4, b5, b6, b7, b8, b9, b10⟩ := m_addAct (hc := hc) (S := x_putA S 42 f) (dn := dn) e1 (by omega)
  have hs : sm = sc := by rw [a6, b8]
  subst hs
  have q42 : S2.1 42 = f := (b2 _ (by decide) (by decide)).trans (gA_s _ _ _)
  refine ⟨S2, b1, q42, hR0.fr (fun c c1 c2 c3 => (b2 c c2 c3).trans (gA_n _ _ c1)) b3 (fun c c1 c2 c3 => (gA_n _ _ c2).trans (a2 c c1 c3)) (fun j j1 j2 => a3 j j1 j2) ?_ ⟨dn + 1 - sm, dn + 1 - sm, Nat.le_refl _, b4, b6, b7, a4, ?_, fun r hr => ?_, fun r hr1 hr2 => absurd hr2 (by omega), fun k hk => ?_⟩⟩
  · rw [q42, gA_s]; exact hrow
  · show M1.1 0 70 = _
    rw [a5, Nat.sub_self]; rfl
  · by_cases hr1 : r + 1 < dn + 1 - sm
    · refine (r1 (r + sm) (by omega)).congr hb (fun k hk => ?_) (fun k hk => ?_)
      · rw [b9 r hr k hk]; rfl
      · exact a7 r hr1 k hk
    · have hr3 : r = dn - sm := by omega
      have hr4 : r + sm = dn := by omega
      refine hN.congr hb (fun k hk => ?_) (fun k hk => ?_)
      · rw [b9 r hr k hk, hr4]; exact r3 k hk
      · rw [hr3]; exact a8 k hk
  · rw [b10 k hk, q42, gA_s]
-- a man does a deed
def ddF (on deed prom : Nat → Int32) (x1 x2 : Int32) (i : Nat) (a : Int32 × Int32 × (Nat → Int32)) : Int32 × Int32 × (Nat → Int32) :=
  if a.2.2 i = 0 ∧ on i = x1 ∧ deed i = x2 then (if prom i = 0 then (a.1, a.2.1 + 1, upd a.2.2 i 3) else (a.1 + 1, a.2.1, upd a.2.2 i 1)) else a
theorem m_doDeed {nb : Nat} (hn : S.1 2 6 = nI nb) (hb : nb ≤ 10) (hp : ∀ b, b < nb → S.1 10 b = 0 ∨ S.1 10 b = 1) {x1 x2 : Int32} {K : Int32 → xSt → Prop}
    (H : ∀ a, a = fo (ddF (S.1 7) (S.1 9) (S.1 10) x1 x2) nb (0, 0, S.1 42) → K (100 * a.1 + a.2.1) (x_putA S 42 a.2.2)) : M_Co_doDeed hc d x1 x2 S K := by
  refine e_Co_doDeed ?_
  have := lp_up (B := fun i (a : Int32 × Int32 × (Nat → Int32)) => B_Co_doDeed_8 hc d x1 x2 a.1 a.2.1 (nI i) (x_putA S 42 a.2.2) K) (ddF (S.1 7) (S.1 9) (S.1 10) x1 x2) nb (fun i a hi ih => ?_) (0, 0, S.1 42) ?_
  · rw [pA_self] at this; exact this
  · have e1 : (x_putA S 42 a.2.2).1 2 6 = nI nb := hn
    refine b_Co_doDeed_8 (br_f (by rw [e1]; exact nI_ge hi (by omega)) (m_Co_isOnMan (vIn (by omega) (by omega)) (fun _ => vIn (by omega) (by omega)) ?_))
    rw [nCl (by omega), gA_s, show (x_putA S 42 a.2.2).1 7 = S.1 7 from rfl]
    have v10 : vp_in (nI i) 10 := vIn (by omega) (by omega)
    have v23 : vp_in (nI i) 23 := vIn (by omega) (by omega)
    unfold ddF at ih
    by_cases c : a.2.2 i = 0 ∧ S.1 7 i = x1
    · rw [bi_pos c]
      refine br_f (by decide) ⟨v10, ?_⟩
      by_cases c2 : S.1 9 i = x2
      · rw [if_pos ⟨c.1, c.2, c2⟩] at ih
        refine br_nt c2 ⟨v10, ?_⟩
        rcases hp i hi with c3 | c3
        · rw [if_pos c3] at ih
          refine br_nf (show ¬ S.1 10 i = 1 by rw [c3]; decide) ⟨v23, b_Co_doDeed_83 ?_⟩
          rw [nI_1, pI_pA]; exact ih
        · rw [if_neg (by rw [c3]; decide)] at ih
          refine br_nt c3 ⟨v23, b_Co_doDeed_83 ?_⟩
          rw [nI_1, pI_pA]; exact ih
      · rw [if_neg (fun z => c2 z.2.2)] at ih
        refine br_nf c2 (b_Co_doDeed_83 ?_)
        rw [nI_1]; exact ih
    · rw [bi_neg c]
      rw [if_neg (fun z => c ⟨z.1, z.2.1⟩)] at ih
      refine br_t rfl (b_Co_doDeed_83 ?_)
      rw [nI_1]; exact ih
  · refine b_Co_doDeed_8 (br_t ?_ (H _ rfl))
    show S.1 2 6 ≤ nI nb
    rw [hn]; exact nI_le (Nat.le_refl _) (by omega)
theorem m_M_does_lp {nb : Nat} (hn : M.1 0 58 = nI nb) (hb : nb ≤ 10) {x1 x2 : Int32} {K : Int32 → xSt → Prop}
    (H : ∀ a, a = fo (ddF (M.1 26) (M.1 28) (M.1 33) x1 x2) nb (0, 0, M.1 34) → K (100 * a.1 + a.2.1) (x_putA M 34 a.2.2)) : B_M_does_30 hm e x1 x2 0 0 0 M K := by
  have := lp_up (B := fun i (a : Int32 × Int32 × (Nat → Int32)) => B_M_does_30 hm e x1 x2 a.1 a.2.1 (nI i) (x_putA M 34 a.2.2) K) (ddF (M.1 26) (M.1 28) (M.1 33) x1 x2) nb (fun i a hi ih => ?_) (0, 0, M.1 34) ?_
  · rw [pA_self] at this; exact this
  · have e1 : (x_putA M 34 a.2.2).1 0 58 = nI nb := hn
    have v10 : vp_in (nI i) 10 := vIn (by omega) (by omega)
    have v24 : vp_in (nI i) 24 := vIn (by omega) (by omega)
    have ci : (nI i).toNatClampNeg = i := nCl (by omega)
    refine b_M_does_30 (br_f (by rw [e1]; exact nI_ge hi (by omega)) (m_M_isOn v24 ?_))
    rw [ci, gA_s]
    unfold ddF at ih
    by_cases c : a.2.2 i = 0
    · rw [bi_pos c]
      refine br_f (by decide) ⟨v10, ?_⟩
      by_cases c1 : M.1 26 i = x1
      · refine br_nt c1 ⟨v10, ?_⟩
        by_cases c2 : M.1 28 i = x2
        · rw [if_pos ⟨c, c1, c2⟩] at ih
          refine br_t c2 ⟨v10, ?_⟩
          by_cases c3 : M.1 33 i = 0
          · rw [if_pos c3] at ih
            refine br_t c3 (b_M_does_94 ⟨v24, v10, ?_⟩)
            rw [ci]
            refine truthZ c3 ⟨v10, br_nt c3 (b_M_does_125 (truth1 (b_M_does_131 ?_)))⟩
            rw [nI_1, Int32.add_zero, pI_pA]; exact ih
          · rw [if_neg c3] at ih
            refine br_f c3 (b_M_does_94 ⟨v24, v10, ?_⟩)
            rw [ci]
            refine truthN c3 ⟨v10, br_nf c3 (b_M_does_125 (truth0 (b_M_does_131 ?_)))⟩
            rw [nI_1, Int32.add_zero, pI_pA]; exact ih
        · rw [if_neg (fun z => c2 z.2.2)] at ih
          refine br_f c2 (b_M_does_131 ?_)
          rw [nI_1]; exact ih
      · rw [if_neg (fun z => c1 z.2.1)] at ih
        refine br_nf c1 (b_M_does_131 ?_)
        rw [nI_1]; exact ih
    · rw [bi_neg c]
      rw [if_neg (fun z => c z.1)] at ih
      refine br_t rfl (b_M_does_131 ?_)
      rw [nI_1]; exact ih
  · refine b_M_does_30 (br_t ?_ (H _ rfl))
    show M.1 0 58 ≤ nI nb
    rw [hn]; exact nI_le (Nat.le_refl _) (by omega)
theorem sim_does (hR : Rel S M) (x1 x2 : Int32) : OKi Rel (M_O_does hc d x1 x2 S) (M_M_does hm e x1 x2 M) := by
  have hR0 := hR
  obtain ⟨nm, nd, nb, nf, hd, st, hP⟩ := hR
  have hP0 := hP
  obtain ⟨hT, hM, hW, hN, hH, hB, hG, hL, hF, hA⟩ := hP
  have hb : nb ≤ 10 := hT.2.2.1.2
  have hb2 : S.1 2 6 = nI nb := hT.2.2.1.1
  have tm := hT.1; have td := hT.2.1
  obtain ⟨⟨mm, md, mb, -⟩, -, -, hbt, -⟩ := hM
  have hbs := hT.2.2.2.2.2.2.2.2.1
  rcases outC x1 tm.1 (by omega) with c | ⟨j, hj, rfl, c1, c2⟩
  · exact ⟨_, S, M, fun K H => e_O_does (hMan_n c (br_t rfl H)), fun K H => e_M_does (isMan_n tm.1 mm (by omega) c (br_t rfl H)), hR0⟩
  · rcases outC x2 td.1 (by omega) with c | ⟨j2, hj2, rfl, c3, c4⟩
    · exact ⟨_, S, M, fun K H => e_O_does (hMan_y c1 c2 (br_f (by decide) (hDeed_n c (br_nt rfl H)))), fun K H => e_M_does (isMan_y tm.1 mm (by omega) c1 c2 (br_f (by decide) (isDeed_n td.1 md (by omega) c (br_nt rfl H)))), hR0⟩
    · obtain ⟨M1, a1, a2, a3, a4⟩ := act2 hc hm hP0
      have q1 : M1.1 26 = M.1 26 := a2 _ (by decide) (by decide)
      have q2 : M1.1 28 = M.1 28 := a2 _ (by decide) (by decide)
      have q3 : M1.1 33 = M.1 33 := a2 _ (by decide) (by decide)
      have q4 : M1.1 34 = M.1 34 := a2 _ (by decide) (by decide)
      have q5 : M1.1 0 58 = nI nb := (a3 58 (by decide) (by decide)).trans (mb.trans hb2)
      have key := fo_rel (f := ddF (S.1 7) (S.1 9) (S.1 10) (nI j) (nI j2)) (g := ddF (M1.1 26) (M1.1 28) (M1.1 33) (nI j) (nI j2)) (n := nb) (fun a b => b.1 = a.1 ∧ b.2.1 = a.2.1 ∧ Row nb a.2.2 b.2.2) (fun i hi a b hab => by
        obtain ⟨h1, h2, h3⟩ := hab
        obtain ⟨g1, g2, g3, g4, -⟩ := hbt i hi
        unfold ddF
        rw [q1, q2, q3, g1, g3, g4, (h3.1 i hi).1, h1, h2]
        by_cases z : a.2.2 i = 0 ∧ S.1 7 i = nI j ∧ S.1 9 i = nI j2
        · rw [if_pos z, if_pos z]
          by_cases y : S.1 10 i = 0
          · rw [if_pos y, if_pos y]; exact ⟨rfl, rfl, h3.state hb hi _⟩
          · rw [if_neg y, if_neg y]; exact ⟨rfl, rfl, h3.state hb hi _⟩
        · rw [if_neg z, if_neg z]; exact ⟨h1, h2, h3⟩) (a := (0, 0, S.1 42)) (b := (0, 0, M1.1 34)) ⟨rfl, rfl, by rw [q4]; exact hN⟩
      obtain ⟨k1, k2, k3⟩ := key
      obtain ⟨S2, s1, -, s3⟩ := a4 _ _ k3
      refine ⟨_, S2, _, fun K H => e_O_does (hMan_y c1 c2 (br_f (by decide) (hDeed_y c3 c4 (br_nf (by decide) (m_doDeed hb2 hb (fun b hb => (hbs b hb).2.2.2.1) (fun a ha => by subst ha; exact s1 _ _ H)))))), fun K H => e_M_does (isMan_y tm.1 mm (by omega) c1 c2 (br_f (by decide) (isDeed_y td.1 md (by omega) c3 c4 (br_nf (by decide) (a1 _ _ (m_M_does_lp q5 hb (fun a ha => by subst ha; rw [k1, k2]; exact H))))))), nm, nd, nb, nf, hd, st, s3⟩
end
