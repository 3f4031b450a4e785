section
variable {hc hm : xH} {d e : Nat} {S M : xSt}
theorem hsW_ge {W : Nat → Nat → Int32} {n : Nat} {f : Nat → Nat} (hn : n ≤ 6) (hg : WG W) (hv : vOK W n f) (hf : ∀ j, j < n → f j ≤ n) {j : Nat} (hj : j < n) : -9 ≤ hsW W f j := by
  unfold hsW
  by_cases c : f j = 0
  · rw [if_pos c]; decide
  · rw [if_neg c]
    have h1 := hf j hj
    rcases hv j hj with z | z
    · exact absurd z c
    · rcases (hg j (f j - 1) (by omega) (by omega)).1 with y | y
      · exact absurd y z.2.2
      · exact y.1
abbrev pqW (W : Nat → Nat → Int32) (f : Nat → Nat) (i j : Nat) : Prop := ¬ (hsW W f i < W i j ∧ hsW W f j < W i j)
abbrev cqW (W : Nat → Nat → Int32) (f : Nat → Nat) (a b : Nat) : Prop := (∀ j, j < a → ∀ i, i < j → pqW W f i j) ∧ ∀ i, i < b → pqW W f i a
theorem m_isCalmM {n : Nat} {W : Nat → Nat → Int32} {f : Nat → Nat} (hn : n ≤ 6) (em : M.1 0 56 = nI n) (hW : ∀ i j, i < n → j < n → M.1 19 (6 * i + j) = W i j) (hg : WG W) (hw : ∀ j, j < n → M.1 44 j = wI (f j)) (hf : ∀ j, j < n → f j ≤ n) (hv : vOK W n f) {K : Int32 → xSt → Prop} (H : K (if cmW W n f then 1 else 0) M) : M_M_isCalm hm e M K := by
  have lt : ∀ a b : Int32, ¬ a ≤ b → b < a := fun a b h => by rw [Int32.lt_iff_toInt_lt]; rw [Int32.le_iff_toInt_le] at h; omega
  have le : ∀ a b : Int32, a ≤ b → ¬ b < a := fun a b h => by rw [Int32.lt_iff_toInt_lt]; rw [Int32.le_iff_toInt_le] at h; omega
  have inner : ∀ a, a < n → ∀ k b, b + k = a → (B_M_isCalm_4 hm e (if cqW W f a a then 1 else 0) (nI a + 1) M K) → B_M_isCalm_14 hm e (if cqW W f a b then 1 else 0) (nI a) (nI b) M K := by
    intro a ha k
    induction k with
    | zero =>
      intro b hb go
      have : b = a := by omega
      subst this
      exact b_M_isCalm_14 (br_t (nI_le (Nat.le_refl _) (by omega)) go)
    | succ k ih =>
      intro b hb go
      have sy : W b a = W a b := (hg b a (by omega) (by omega)).2
      have nxt : ∀ x : Int32, x = (if cqW W f a (b + 1) then 1 else 0) → B_M_isCalm_85 hm e (nI a) (nI b) x M K := by
        intro x hx
        refine b_M_isCalm_85 ?_
        rw [nI_1, hx]; exact ih (b + 1) (by omega) go
      by_cases c : cqW W f a b
      · have good : pqW W f b a → B_M_isCalm_80 hm e (nI a) (nI b) M K := fun z => b_M_isCalm_80 (nxt 1 (by
          refine (if_pos ⟨c.1, fun i hi => ?_⟩).symm
          by_cases y : i = b
          · rw [y]; exact z
          · exact c.2 i (by omega)))
        have bad : ¬ pqW W f b a → B_M_isCalm_84 hm e (nI a) (nI b) M K := fun z => b_M_isCalm_84 (nxt 0 (by rw [if_neg (fun y => z (y.2 b (by omega)))]))
        rw [if_pos c]
        refine b_M_isCalm_14 (br_f (nI_ge (by omega) (by omega)) (br_f (by decide) (m_isToldM hn hW ha (by omega) ?_)))
        have e6 : (6 : Int32) * nI a + nI b = nI (6 * a + b) := ix6' a b
        have c6 : ((6 : Int32) * nI a + nI b).toNatClampNeg = 6 * a + b := by rw [e6]; exact nCl (by omega)
        have v36 : vp_in ((6 : Int32) * nI a + nI b) 36 := by rw [e6]; exact vIn (by omega) (by omega)
        by_cases t : W a b = -100
        · rw [if_pos t]
          refine br_t rfl (good (fun z => ?_))
          have h9 := hsW_ge hn hg hv hf (j := b) (by omega)
          have z1 := z.1
          rw [sy, t, Int32.lt_iff_toInt_lt] at z1
          rw [Int32.le_iff_toInt_le] at h9
          have e1 : (-9 : Int32).toInt = -9 := by decide
          have e2 : (-100 : Int32).toInt = -100 := by decide
          omega
        · rw [if_neg t]
          refine br_f (by decide) ⟨vIn (by omega) (by omega), ?_⟩
          rw [nCl (by omega), hw a ha, c6, hW a b ha (by omega)]
          have fl := hf a ha
          by_cases p : f a = b + 1
          · refine br_t (by rw [p, wI_p (by omega)]; rfl) (good (fun z => ?_))
            have z2 := z.2
            unfold hsW at z2
            rw [if_neg (show ¬ f a = 0 by omega), p, sy] at z2
            rw [Int32.lt_iff_toInt_lt] at z2
            rw [show b + 1 - 1 = b by omega] at z2
            omega
          · refine br_f (fun z => p ?_) ⟨v36, m_hasM hn hW ha (hw a ha) (hf a ha) ?_⟩
            · by_cases y : f a = 0
              · rw [wI_0 y] at z; exact absurd z.symm (nM1 (by omega))
              · rw [wI_p y] at z
                have := (nEq (by omega) (by omega)).mp z; omega
            · by_cases c1 : W a b ≤ hsW W f a
              · exact br_t c1 (good (fun z => le _ _ c1 (by rw [← sy]; exact z.2)))
              · refine br_f c1 ⟨v36, m_hasM hn hW (by omega) (hw b (by omega)) (hf b (by omega)) ?_⟩
                rw [hW a b ha (by omega)]
                by_cases c2 : hsW W f b < W a b
                · exact br_t c2 (bad (fun z => z ⟨by rw [sy]; exact c2, by rw [sy]; exact lt _ _ c1⟩))
                · exact br_f c2 (good (fun z => c2 (by rw [← sy]; exact z.1)))
      · rw [if_neg c]
        refine b_M_isCalm_14 (br_f (nI_ge (by omega) (by omega)) (br_t rfl (b_M_isCalm_84 (nxt 0 ?_))))
        rw [if_neg (fun y => c ⟨y.1, fun i hi => y.2 i (by omega)⟩)]
  have outer : ∀ k a, a + k = n → B_M_isCalm_4 hm e (if cqW W f a 0 then 1 else 0) (nI a) M K := by
    intro k
    induction k with
    | zero =>
      intro a ha
      have : a = n := by omega
      subst this
      have iff : cqW W f a 0 ↔ cmW W a f := ⟨fun z i hi j hj hij => z.1 j hj i hij, fun z => ⟨fun j hj i hi => z i (by omega) j hj hi, fun i hi => absurd hi (Nat.not_lt_zero _)⟩⟩
      refine b_M_isCalm_4 (br_t (by rw [em]; exact nI_le (Nat.le_refl _) (by omega)) ⟨?_, ?_⟩)
      · split
        · exact zb1
        · exact zb0
      · by_cases c : cqW W f a 0
        · rw [if_pos c]; rw [if_pos (iff.mp c)] at H; exact H
        · rw [if_neg c]; rw [if_neg (fun z => c (iff.mpr z))] at H; exact H
    | succ k ih =>
      intro a ha
      refine b_M_isCalm_4 (br_f (by rw [em]; exact nI_ge (by omega) (by omega)) (inner a (by omega) a 0 (by omega) ?_))
      rw [nI_1]
      have := ih (a + 1) (by omega)
      have iff : cqW W f (a + 1) 0 ↔ cqW W f a a := ⟨fun z => ⟨fun j hj i hi => z.1 j (by omega) i hi, fun i hi => z.1 a (by omega) i hi⟩, fun z => ⟨fun j hj i hi => by
        by_cases y : j = a
        · rw [y] at hi ⊢; exact z.2 i hi
        · exact z.1 j (by omega) i hi, fun i hi => absurd hi (Nat.not_lt_zero _)⟩⟩
      by_cases c : cqW W f a a
      · rw [if_pos c]; rw [if_pos (iff.mpr c)] at this; exact this
      · rw [if_neg c]; rw [if_neg (fun z => c (iff.mp z))] at this; exact this
  refine e_M_isCalm ?_
  have := outer n 0 (by omega)
  rw [if_pos (show cqW W f 0 0 from ⟨fun j hj => absurd hj (Nat.not_lt_zero _), fun i hi => absurd hi (Nat.not_lt_zero _)⟩)] at this
  exact this
/-- what the reference's truces may change -/
def FrT (M M' : xSt) : Prop := (∀ c, c ≠ 0 → c ≠ 42 → c ≠ 44 → M'.1 c = M.1 c) ∧ ∀ j, j ≠ 85 → M'.1 0 j = M.1 0 j
theorem m_putTwos {n : Nat} {g : Nat → Int32} (hn : n ≤ 6) (em : M.1 0 56 = nI n) (hw : ∀ j, j < n → M.1 44 j = g j) {K : xSt → Prop} (H : ∀ M', FrT M M' → M'.1 44 = M.1 44 → M'.1 0 85 = nI n → (∀ j, j < n → M'.1 42 j = g j) → K M') : M_M_putTwos hm e M K := by
  refine e_M_putTwos ?_
  refine lp_inv (B := fun i (q : xSt) => B_M_putTwos_2 hm e (nI i) q K) (fun i q => (∀ c, c ≠ 42 → q.1 c = M.1 c) ∧ (∀ j, j < i → q.1 42 j = g j)) n (fun i q hi hI ih => ?_) (fun q hI => ?_) M ⟨fun c _ => rfl, fun j hj => absurd hj (Nat.not_lt_zero _)⟩
  · obtain ⟨q1, q2⟩ := hI
    refine b_M_putTwos_2 (br_f (by rw [q1 0 (by decide), em]; exact nI_ge hi (by omega)) ⟨vIn (by omega) (by omega), vIn (by omega) (by omega), ?_⟩)
    rw [nCl (by omega), nI_1, q1 44 (by decide), hw i hi]
    refine ih _ ⟨fun c hc => by rw [gI_ne _ _ _ hc]; exact q1 c hc, fun j hj => ?_⟩
    rw [gI_same]
    by_cases y : j = i
    · rw [y, up_s]
    · rw [up_n _ _ y]; exact q2 j (by omega)
  · obtain ⟨q1, q2⟩ := hI
    refine b_M_putTwos_2 (br_t (by rw [q1 0 (by decide), em]; exact nI_le (Nat.le_refl _) (by omega)) (H _ ⟨fun c c1 c2 c3 => by rw [gI_ne _ _ _ c1]; exact q1 c c2, fun j hj => ?_⟩ ?_ ?_ q2))
    · rw [gI_same, up_n _ _ hj, q1 0 (by decide)]
    · show q.1 44 = _; exact q1 _ (by decide)
    · rw [gI_same, up_s, q1 0 (by decide)]; exact em
theorem dg_0 (n j : Nat) : dg n 0 j = 0 := by unfold dg; rw [Nat.zero_div, Nat.zero_mod]
theorem vOK_0 (W : Nat → Nat → Int32) (n : Nat) : vOK W n (dg n 0) := fun j _ => Or.inl (dg_0 n j)
theorem wo_0 (W : Nat → Nat → Int32) (n : Nat) : ∀ k, woW W (dg n 0) k = 0 := by
  intro k
  induction k with
  | zero => rfl
  | succ k ih =>
    show woW W (dg n 0) k + (if k + 1 < dg n 0 k then _ else 0) = 0
    rw [ih, dg_0, if_neg (by omega)]; rfl
theorem tQ_some (W : Nat → Nat → Int32) (n : Nat) : ∀ v, ∃ u, (tQ W n (v + 1)).1.2 = some u := by
  intro v
  induction v with
  | zero => exact ⟨0, by unfold tQ; rw [if_pos (vOK_0 W n), if_pos (Or.inl (show (tQ W n 0).1.2 = none from rfl))]⟩
  | succ v ih =>
    obtain ⟨u, hu⟩ := ih
    rw [tQ]
    by_cases c : vOK W n (dg n (v + 1))
    · rw [if_pos c]
      by_cases z : (tQ W n (v + 1)).1.2 = none ∨ (tQ W n (v + 1)).1.1 < woW W (dg n (v + 1)) n
      · exact ⟨v + 1, by rw [if_pos z]⟩
      · exact ⟨u, by rw [if_neg z]; exact hu⟩
    · rw [if_neg c]; exact ⟨u, hu⟩
end
