section
theorem fo_rel {α β : Type} {f : Nat → α → α} {g : Nat → β → β} (R : α → β → Prop) {n : Nat} (h : ∀ i, i < n → ∀ a b, R a b → R (f i a) (g i b)) {a : α} {b : β} (h0 : R a b) : R (fo f n a) (fo g n b) := by
  induction n with
  | zero => exact h0
  | succ n ih => exact h n (by omega) _ _ (ih (fun i hi => h i (by omega)))
/-- x is no index below v -/
def Out (x v : Int32) : Prop := x < 0 ∨ (¬ x < 0 ∧ v ≤ x)
theorem outC (x : Int32) {v : Int32} {n : Nat} (e : v = nI n) (hn : n ≤ 2000000) : Out x v ∨ ∃ j, j < n ∧ x = nI j ∧ ¬ x < 0 ∧ ¬ v ≤ x := by
  rcases ixC x e hn with h | h | h
  · exact Or.inl (Or.inl h)
  · exact Or.inl (Or.inr h)
  · exact Or.inr h
theorem out_n {x v : Int32} (h : Out x v) : ¬ (¬ (x < 0) ∧ ¬ v ≤ x) := by
  intro z
  rcases h with h | h
  · exact z.1 h
  · exact z.2 h.2
theorem bi_outN {x v : Int32} (h : Out x v) : bi (¬ (x < 0) ∧ ¬ v ≤ x) = 0 := bi_neg (out_n h)
theorem bi_outM {x v w : Int32} {n : Nat} (e : v = nI n) (hw : w = v) (hn : n ≤ 2000000) (h : Out x v) : bi (¬ (x < 0) ∧ ¬ (w - 1) < x) = 0 := bi_neg (fun z => out_n h ((ixM e hw hn).mp z))
theorem bi_inM {x v w : Int32} {n : Nat} (e : v = nI n) (hw : w = v) (hn : n ≤ 2000000) (h1 : ¬ x < 0) (h2 : ¬ v ≤ x) : bi (¬ (x < 0) ∧ ¬ (w - 1) < x) = 1 := bi_pos ((ixM e hw hn).mpr ⟨h1, h2⟩)
variable {hc hm : xH} {d e : Nat} {S M : xSt}
theorem hMan_n {x : Int32} {K : Int32 → xSt → Prop} (h : Out x (S.1 2 0)) (H : K 0 S) : M_Rg_hasMan_2 hc d x S K := m_Rg_hasMan_2 (by rw [bi_outN h]; exact H)
theorem hMan_y {x : Int32} {K : Int32 → xSt → Prop} (h1 : ¬ x < 0) (h2 : ¬ S.1 2 0 ≤ x) (H : K 1 S) : M_Rg_hasMan_2 hc d x S K := m_Rg_hasMan_2 (by rw [bi_pos ⟨h1, h2⟩]; exact H)
theorem hDeed_n {x : Int32} {K : Int32 → xSt → Prop} (h : Out x (S.1 2 4)) (H : K 0 S) : M_Rg_hasDeed_2 hc d x S K := m_Rg_hasDeed_2 (by rw [bi_outN h]; exact H)
theorem hDeed_y {x : Int32} {K : Int32 → xSt → Prop} (h1 : ¬ x < 0) (h2 : ¬ S.1 2 4 ≤ x) (H : K 1 S) : M_Rg_hasDeed_2 hc d x S K := m_Rg_hasDeed_2 (by rw [bi_pos ⟨h1, h2⟩]; exact H)
theorem hBut_n {x : Int32} {K : Int32 → xSt → Prop} (h : Out x (S.1 2 6)) (H : K 0 S) : M_Rg_hasButton_2 hc d x S K := m_Rg_hasButton_2 (by rw [bi_outN h]; exact H)
theorem hBut_y {x : Int32} {K : Int32 → xSt → Prop} (h1 : ¬ x < 0) (h2 : ¬ S.1 2 6 ≤ x) (H : K 1 S) : M_Rg_hasButton_2 hc d x S K := m_Rg_hasButton_2 (by rw [bi_pos ⟨h1, h2⟩]; exact H)
section
variable {x v : Int32} {n : Nat} {K : Int32 → xSt → Prop}
theorem isMan_n (e1 : v = nI n) (hw : M.1 0 56 = v) (hn : n ≤ 2000000) (h : Out x v) (H : K 0 M) : M_M_isMan hm e x M K := m_M_isMan (by rw [bi_outM e1 hw hn h]; exact H)
theorem isMan_y (e1 : v = nI n) (hw : M.1 0 56 = v) (hn : n ≤ 2000000) (h1 : ¬ x < 0) (h2 : ¬ v ≤ x) (H : K 1 M) : M_M_isMan hm e x M K := m_M_isMan (by rw [bi_inM e1 hw hn h1 h2]; exact H)
theorem isDeed_n (e1 : v = nI n) (hw : M.1 0 57 = v) (hn : n ≤ 2000000) (h : Out x v) (H : K 0 M) : M_M_isDeed hm e x M K := m_M_isDeed (by rw [bi_outM e1 hw hn h]; exact H)
theorem isDeed_y (e1 : v = nI n) (hw : M.1 0 57 = v) (hn : n ≤ 2000000) (h1 : ¬ x < 0) (h2 : ¬ v ≤ x) (H : K 1 M) : M_M_isDeed hm e x M K := m_M_isDeed (by rw [bi_inM e1 hw hn h1 h2]; exact H)
theorem isBut_n (e1 : v = nI n) (hw : M.1 0 58 = v) (hn : n ≤ 2000000) (h : Out x v) (H : K 0 M) : M_M_isButton hm e x M K := m_M_isButton (by rw [bi_outM e1 hw hn h]; exact H)
theorem isBut_y (e1 : v = nI n) (hw : M.1 0 58 = v) (hn : n ≤ 2000000) (h1 : ¬ x < 0) (h2 : ¬ v ≤ x) (H : K 1 M) : M_M_isButton hm e x M K := m_M_isButton (by rw [bi_inM e1 hw hn h1 h2]; exact H)
theorem truth0 (H : K 0 M) : M_M_truth hm e 0 M K := m_M_truth (by first | exact H | simpa using H)
theorem truthN (hx : ¬ x = 0) (H : K 1 M) : M_M_truth hm e x M K := m_M_truth (by rw [if_neg hx]; exact H)
theorem truthZ (hx : x = 0) (H : K 0 M) : M_M_truth hm e x M K := m_M_truth (by rw [if_pos hx]; exact H)
theorem truth1 (H : K 1 M) : M_M_truth hm e 1 M K := m_M_truth (by first | exact H | simpa using H)
end
-- the class adds an act: rows below the new count from sh rows further on
theorem m_addAct {dn : Nat} (h0 : S.1 43 4 = nI dn) (h : dn ≤ 40) : ∃ (S' : xSt) (sh : Nat), (∀ (d : Nat) (K : xSt → Prop), K S' → M_Hi_addAct hc d S K) ∧ (∀ c, c ≠ 43 → c ≠ 44 → S'.1 c = S.1 c) ∧ S'.1 43 3 = S.1 43 3 ∧ dn + 1 - sh ≤ 40 ∧ sh ≤ 1 ∧ S'.1 43 4 = nI (dn + 1 - sh) ∧ S'.1 43 5 = nI (dn + 1 - sh) ∧
    (sh = if dn < 40 then 0 else 1) ∧ (∀ r, r < dn + 1 - sh → ∀ k, k < 23 → S'.1 44 (23 * r + k) = S.1 44 (23 * (r + sh) + k)) ∧ ∀ k, k < 23 → S'.1 44 (23 * (dn + 1 - sh) + k) = S.1 42 k := by
  by_cases c : dn < 40
  · have q : S.1 43 4 + 1 = nI (dn + 1) := by rw [h0, nI_1]
    refine ⟨_, 0, fun d K H => e_Hi_addAct (br_t (by rw [h0]; exact nI_lt (b := 40) c (by omega)) (b_Hi_addAct_39 (m_writeRow (dn := dn + 1) q (by omega) H))), fun c h1 h2 => ?_, rfl, by omega, by omega, q, q, by rw [if_pos c], fun r hr k hk => ?_, fun k hk => ?_⟩
    · show (if c = _ then _ else if c = _ then _ else if c = _ then _ else _) = _
      rw [if_neg h2, if_neg h1, if_neg h1]
    · show va_cpy (S.1 42) (S.1 44) 0 (23 * (dn + 1)) 23 (23 * r + k) = _
      unfold va_cpy; rw [if_neg (by omega), Nat.add_zero]
    · show va_cpy (S.1 42) (S.1 44) 0 (23 * (dn + 1)) 23 (23 * (dn + 1 - 0) + k) = _
      unfold va_cpy; rw [if_pos (by omega), show 0 + (23 * (dn + 1 - 0) + k - 23 * (dn + 1)) = k by omega]
  · have hd : dn = 40 := by omega
    subst hd
    refine ⟨_, 1, fun d K H => e_Hi_addAct (br_f (by rw [h0]; decide) ⟨by decide, b_Hi_addAct_39 (m_writeRow (S := x_putI (x_putA S 44 (va_cpy (S.1 44) (S.1 44) 23 0 920)) 43 5 (S.1 43 4)) (dn := 40) h0 (by omega) H)⟩), fun c h1 h2 => ?_, rfl, by omega, by omega, h0, h0, by rw [if_neg c], fun r hr k hk => ?_, fun k hk => ?_⟩
    · show (if c = _ then _ else if c = _ then _ else if c = _ then _ else _) = _
      rw [if_neg h2, if_neg h1, if_neg h2]
    · show va_cpy (S.1 42) (va_cpy (S.1 44) (S.1 44) 23 0 920) 0 (23 * 40) 23 (23 * r + k) = _
      unfold va_cpy; rw [if_neg (by omega), if_pos (by omega), show 23 + (23 * r + k - 0) = 23 * (r + 1) + k by omega]
    · show va_cpy (S.1 42) (va_cpy (S.1 44) (S.1 44) 23 0 920) 0 (23 * 40) 23 (23 * (40 + 1 - 1) + k) = _
      generalize va_cpy (S.1 44) (S.1 44) 23 0 920 = f
      unfold va_cpy; rw [if_pos (by omega), show 0 + (23 * (40 + 1 - 1) + k - 23 * 40) = k by omega]
-- the reference's act: row copied ahead of it
theorem m_M_act_row {a : Nat} (ha : a < 40) (h0 : M.1 0 69 = nI a) {K : xSt → Prop} (H : K (x_putI (x_putI (x_putA M 35 (va_cpy (M.1 34) (M.1 35) 0 (24 * a) 23)) 0 69 (nI (a + 1))) 0 70 0)) : B_M_act_49 hm e M K := by
  refine b_M_act_49 ?_
  have q : ∀ i, (24 : Int32) * M.1 0 69 + nI i = nI (24 * a + i) := fun i => by rw [h0, show (24 : Int32) = nI 24 from rfl, pk_mul, nI_add]
  have := lp_st (B := fun i S' => B_M_act_51 hm e (nI i) S' K) (fun i => x_putA M 35 (va_cpy (M.1 34) (M.1 35) 0 (24 * a) i)) 23 (fun i hi ih => ?_) ?_
  · simp only [cpy0, pA_self] at this
    exact this
  · refine b_M_act_51 (br_f (nI_ge (b := 23) hi (by omega)) ⟨vIn (by omega) (by omega), ?_⟩)
    rw [show (24 : Int32) * (x_putA M 35 (va_cpy (M.1 34) (M.1 35) 0 (24 * a) i)).1 0 69 + nI i = nI (24 * a + i) from q i]
    refine ⟨vIn (by omega) (by omega), ?_⟩
    rw [nI_1, nCl (by omega), nCl (by omega), gA_n _ _ (by decide), pI_pA]
    have z := cpyS (M.1 34) (M.1 35) 0 (24 * a) i
    rw [Nat.zero_add] at z
    rw [z]; exact ih
  · refine b_M_act_51 (br_t (by decide) ?_)
    rw [show (x_putA M 35 (va_cpy (M.1 34) (M.1 35) 0 (24 * a) 23)).1 0 69 + 1 = nI (a + 1) by rw [← nI_1, ← h0]; rfl]
    exact H
theorem m_M_act {dn : Nat} (h0 : M.1 0 69 = nI dn) (h : dn ≤ 40) : ∃ (M' : xSt) (sh : Nat), (∀ (e : Nat) (K : xSt → Prop), K M' → M_M_act hm e M K) ∧ (∀ c, c ≠ 0 → c ≠ 35 → M'.1 c = M.1 c) ∧ (∀ j, j ≠ 69 → j ≠ 70 → M'.1 0 j = M.1 0 j) ∧ M'.1 0 69 = nI (dn + 1 - sh) ∧ M'.1 0 70 = 0 ∧
    (sh = if dn < 40 then 0 else 1) ∧ (∀ r, r + 1 < dn + 1 - sh → ∀ k, k < 23 → M'.1 35 (24 * r + k) = M.1 35 (24 * (r + sh) + k)) ∧ ∀ k, k < 23 → M'.1 35 (24 * (dn - sh) + k) = M.1 34 k := by
  by_cases c : dn < 40
  · refine ⟨_, 0, fun e K H => e_M_act (br_nf (by rw [h0]; exact fun z => absurd ((nEq (b := 40) (by omega) (by omega)).mp z) (by omega)) (m_M_act_row c h0 H)), fun c h1 h2 => ?_, fun j h1 h2 => ?_, rfl, rfl, by rw [if_pos c], fun r hr k hk => ?_, fun k hk => ?_⟩
    · show (if c = _ then _ else if c = _ then _ else if c = _ then _ else _) = _
      rw [if_neg h1, if_neg h1, if_neg h2]
    · show upd (upd (M.1 0) 69 _) 70 _ j = _
      rw [up_n _ _ h2, up_n _ _ h1]
    · show va_cpy (M.1 34) (M.1 35) 0 (24 * dn) 23 (24 * r + k) = _
      unfold va_cpy; rw [if_neg (by omega), Nat.add_zero]
    · show va_cpy (M.1 34) (M.1 35) 0 (24 * dn) 23 (24 * (dn - 0) + k) = _
      unfold va_cpy; rw [if_pos (by omega), show 0 + (24 * (dn - 0) + k - 24 * dn) = k by omega]
  · have hd : dn = 40 := by omega
    subst hd
    have q39 : M.1 0 69 - 1 = nI 39 := by rw [h0]; decide
    have run : ∀ (e : Nat) (K : xSt → Prop), K (x_putI (x_putI (x_putA (x_putI (x_putA M 35 (va_cpy (M.1 35) (M.1 35) 24 0 936)) 0 69 (M.1 0 69 - 1)) 35 (va_cpy (M.1 34) (va_cpy (M.1 35) (M.1 35) 24 0 936) 0 (24 * 39) 23)) 0 69 (nI (39 + 1))) 0 70 0) → M_M_act hm e M K := by
      intro e K H
      refine e_M_act (br_nt (by rw [h0]; rfl) ?_)
      have := lp_st (B := fun i S' => B_M_act_11 hm e (nI i) S' K) (fun i => x_putA M 35 (va_cpy (M.1 35) (M.1 35) 24 0 i)) 936 (fun i hi ih => ?_) ?_
      · simp only [cpy0, pA_self] at this
        exact this
      · refine b_M_act_11 (br_f (nI_ge (b := 936) hi (by omega)) ?_)
        rw [show (24 : Int32) + nI i = nI (24 + i) by rw [show (24 : Int32) = nI 24 from rfl, nI_add]]
        refine ⟨vIn (by omega) (by omega), vIn (by omega) (by omega), ?_⟩
        rw [nI_1, nCl (by omega), nCl (by omega), gA_s, pI_pA]
        have z := cpyS (M.1 35) (M.1 35) 24 0 i
        rw [Nat.zero_add] at z
        rw [show va_cpy (M.1 35) (M.1 35) 24 0 i (24 + i) = M.1 35 (24 + i) by unfold va_cpy; rw [if_neg (by omega)], z]; exact ih
      · exact b_M_act_11 (br_t (by decide) (m_M_act_row (M := x_putI (x_putA M 35 (va_cpy (M.1 35) (M.1 35) 24 0 936)) 0 69 (M.1 0 69 - 1)) (a := 39) (by omega) q39 H))
    refine ⟨_, 1, run, ?_⟩
    · refine ⟨fun c h1 h2 => ?_, fun j h1 h2 => ?_, rfl, rfl, by rw [if_neg c], fun r hr k hk => ?_, fun k hk => ?_⟩
      · show (if c = _ then _ else if c = _ then _ else if c = _ then _ else if c = _ then _ else if c = _ then _ else _) = _
        rw [if_neg h1, if_neg h1, if_neg h2, if_neg h1, if_neg h2]
      · show upd (upd (upd (M.1 0) 69 _) 69 _) 70 _ j = _
        rw [up_n _ _ h2, up_n _ _ h1, up_n _ _ h1]
      · show va_cpy (M.1 34) (va_cpy (M.1 35) (M.1 35) 24 0 936) 0 (24 * 39) 23 (24 * r + k) = _
        unfold va_cpy; rw [if_neg (by omega), if_pos (by omega), show 24 + (24 * r + k - 0) = 24 * (r + 1) + k by omega]
      · show va_cpy (M.1 34) (va_cpy (M.1 35) (M.1 35) 24 0 936) 0 (24 * 39) 23 (24 * (40 - 1) + k) = _
        generalize va_cpy (M.1 35) (M.1 35) 24 0 936 = f
        unfold va_cpy; rw [if_pos (by omega), show 0 + (24 * (40 - 1) + k - 24 * 39) = k by omega]
theorem RelP.fr {nm nd nb nf hd st : Nat} {S2 M2 : xSt} (hR : RelP nm nd nb nf hd st S M) (hC : ∀ c, c ≠ 42 → c ≠ 43 → c ≠ 44 → S2.1 c = S.1 c) (hf : S2.1 43 3 = S.1 43 3) (hMc : ∀ c, c ≠ 0 → c ≠ 34 → c ≠ 35 → M2.1 c = M.1 c) (hM0 : ∀ j, j ≠ 69 → j ≠ 70 → M2.1 0 j = M.1 0 j)
    (hrow : Row nb (S2.1 42) (M2.1 34)) (hH : RH nb (S2.1 43 4) (S2.1 43 5) (S2.1 42) (S2.1 44) (M2.1 0 69) (M2.1 0 70) (M2.1 35)) : RelP nm nd nb nf hd st S2 M2 := by
  obtain ⟨hT, hM, hW, hN, hH0, hB, hG, hL, hF, hA⟩ := hR
  refine ⟨?_, ?_, ?_, hrow, hH, ?_, ?_, ?_, ?_, ?_⟩
  · rw [hC 2 (by decide) (by decide) (by decide), hC 3 (by decide) (by decide) (by decide), hC 4 (by decide) (by decide) (by decide), hC 5 (by decide) (by decide) (by decide), hC 6 (by decide) (by decide) (by decide), hC 7 (by decide) (by decide) (by decide), hC 8 (by decide) (by decide) (by decide), hC 9 (by decide) (by decide) (by decide), hC 10 (by decide) (by decide) (by decide), hC 11 (by decide) (by decide) (by decide), hC 12 (by decide) (by decide) (by decide), hC 13 (by decide) (by decide) (by decide), hC 14 (by decide) (by decide) (by decide)]
    exact hT
  · rw [hC 2 (by decide) (by decide) (by decide), hC 3 (by decide) (by decide) (by decide), hC 4 (by decide) (by decide) (by decide), hC 5 (by decide) (by decide) (by decide), hC 6 (by decide) (by decide) (by decide), hC 7 (by decide) (by decide) (by decide), hC 8 (by decide) (by decide) (by decide), hC 9 (by decide) (by decide) (by decide), hC 10 (by decide) (by decide) (by decide), hC 11 (by decide) (by decide) (by decide), hC 12 (by decide) (by decide) (by decide), hC 13 (by decide) (by decide) (by decide), hC 14 (by decide) (by decide) (by decide)]
    simp only [hMc 15 (by decide) (by decide) (by decide), hMc 16 (by decide) (by decide) (by decide), hMc 17 (by decide) (by decide) (by decide), hMc 18 (by decide) (by decide) (by decide), hMc 19 (by decide) (by decide) (by decide), hMc 26 (by decide) (by decide) (by decide), hMc 27 (by decide) (by decide) (by decide), hMc 28 (by decide) (by decide) (by decide), hMc 29 (by decide) (by decide) (by decide), hMc 30 (by decide) (by decide) (by decide), hMc 31 (by decide) (by decide) (by decide), hMc 33 (by decide) (by decide) (by decide), hM0 56 (by decide) (by decide), hM0 57 (by decide) (by decide), hM0 58 (by decide) (by decide), hM0 59 (by decide) (by decide), hM0 60 (by decide) (by decide), hM0 61 (by decide) (by decide)]
    exact hM
  · rw [hC 15 (by decide) (by decide) (by decide), hC 16 (by decide) (by decide) (by decide), hMc 5 (by decide) (by decide) (by decide), hMc 6 (by decide) (by decide) (by decide), hM0 _ (by decide) (by decide), hM0 _ (by decide) (by decide), hM0 _ (by decide) (by decide)]
    exact hW
  · rw [hf, hC 45 (by decide) (by decide) (by decide), hMc 50 (by decide) (by decide) (by decide), hMc 51 (by decide) (by decide) (by decide)]
    exact hB
  · rw [hC 57 (by decide) (by decide) (by decide), hC 58 (by decide) (by decide) (by decide), hC 59 (by decide) (by decide) (by decide), hC 60 (by decide) (by decide) (by decide), hC 61 (by decide) (by decide) (by decide), hC 62 (by decide) (by decide) (by decide), hM0 _ (by decide) (by decide), hM0 _ (by decide) (by decide), hMc 45 (by decide) (by decide) (by decide), hMc 46 (by decide) (by decide) (by decide), hMc 47 (by decide) (by decide) (by decide), hMc 48 (by decide) (by decide) (by decide), hMc 49 (by decide) (by decide) (by decide)]
    exact hG
  · rw [hC 0 (by decide) (by decide) (by decide), hC 63 (by decide) (by decide) (by decide), hM0 _ (by decide) (by decide), hMc 42 (by decide) (by decide) (by decide)]
    exact hL
  · rw [hC 0 (by decide) (by decide) (by decide), hM0 _ (by decide) (by decide), hM0 _ (by decide) (by decide)]
    exact hF
  · rw [hC 0 (by decide) (by decide) (by decide), hC 1 (by decide) (by decide) (by decide), hM0 _ (by decide) (by decide), hMc 1 (by decide) (by decide) (by decide)]
    exact hA
end
