section
variable {hc hm : xH} {d e : Nat} {S M : xSt}
theorem m_rowsOf {n : Nat} (hn : n ≤ 6) (em : M.1 0 56 = nI n) {K : Int32 → xSt → Prop} (H : K (nI ((n + 1) ^ n)) M) : M_M_rowsOf hm e M K := by
  refine e_M_rowsOf ?_
  have e1 : ∀ k, fo (fun (_ : Nat) (a : Nat) => a * (n + 1)) k 1 = (n + 1) ^ k := by
    intro k
    induction k with
    | zero => rfl
    | succ k ih => show fo (fun (_ : Nat) (a : Nat) => a * (n + 1)) k 1 * (n + 1) = _; rw [ih, Nat.pow_succ]
  refine lp_up (B := fun i (a : Nat) => B_M_rowsOf_4 hm e (nI a) (nI i) M K) (fun _ a => a * (n + 1)) n (fun i a hi ih => ?_) 1 ?_
  · refine b_M_rowsOf_4 (br_f (by rw [em]; exact nI_ge hi (by omega)) ?_)
    rw [em, nI_1, pk_mul, nI_1]; exact ih
  · rw [e1]
    exact b_M_rowsOf_4 (br_t (by rw [em]; exact nI_le (Nat.le_refl _) (by omega)) H)
theorem wI_sub {x : Nat} : nI x - 1 = wI x := by
  by_cases c : x = 0
  · rw [wI_0 c, c]; decide
  · rw [wI_p c, show (1 : Int32) = nI 1 from rfl, pk_sub (by omega)]
theorem m_isToldM {n i j : Nat} {W : Nat → Nat → Int32} (hn : n ≤ 6) (hW : ∀ i j, i < n → j < n → M.1 19 (6 * i + j) = W i j) (hi : i < n) (hj : j < n) {K : Int32 → xSt → Prop} (H : K (if W i j = -100 then 0 else 1) M) : M_M_isTold hm e (nI i) (nI j) M K := by
  refine e_M_isTold ⟨by rw [ix6']; exact vIn (by omega) (by omega), ?_⟩
  rw [ix6', nCl (by omega), hW i j hi hj]
  by_cases c : W i j = -100
  · rw [if_pos c] at H; exact br_t c H
  · rw [if_neg c] at H; exact br_f c H
theorem m_hasM {n j : Nat} {W : Nat → Nat → Int32} {f : Nat → Nat} (hn : n ≤ 6) (hW : ∀ i j, i < n → j < n → M.1 19 (6 * i + j) = W i j) (hj : j < n) (hw : M.1 44 j = wI (f j)) (hf : f j ≤ n) {K : Int32 → xSt → Prop} (H : K (hsW W f j) M) : M_M_has hm e (nI j) M K := by
  have ci : (nI j).toNatClampNeg = j := nCl (by omega)
  have v6 : vp_in (nI j) 6 := vIn (by omega) (by omega)
  refine e_M_has ⟨v6, ?_⟩
  rw [ci, hw]
  unfold hsW at H
  by_cases c : f j = 0
  · rw [if_pos c] at H
    rw [wI_0 c]
    exact br_f (by decide) H
  · rw [if_neg c] at H
    rw [wI_p c, ix6']
    refine br_t (nL0 (by omega)) ⟨v6, vIn (by omega) (by omega), ?_⟩
    rw [nCl (by omega), hW j _ hj (by omega)]; exact H
theorem m_layTwos {n v : Nat} {W : Nat → Nat → Int32} (hn : n ≤ 6) (em : M.1 0 56 = nI n) (hW : ∀ i j, i < n → j < n → M.1 19 (6 * i + j) = W i j) (hv : v < 2000000) {K : Int32 → xSt → Prop} (H : ∀ M', (∀ c, c ≠ 44 → M'.1 c = M.1 c) → (∀ j, j < n → M'.1 44 j = wI (dg n v j)) → K (if vOK W n (dg n v) then 1 else 0) M') : M_M_layTwos hm e (nI v) M K := by
  -- the check
  have chk : ∀ q : xSt, (∀ c, c ≠ 44 → q.1 c = M.1 c) → (∀ j, j < n → q.1 44 j = wI (dg n v j)) → B_M_layTwos_49 hm e 1 0 q K := by
    intro q h1 h2
    have eq : q.1 0 56 = nI n := by rw [h1 0 (by decide)]; exact em
    have hWq : ∀ i j, i < n → j < n → q.1 19 (6 * i + j) = W i j := by rw [h1 19 (by decide)]; exact hW
    have go : ∀ k i, i + k = n → (∀ j, j < i → dg n v j = 0 ∨ (dg n v j ≠ j + 1 ∧ dg n v (dg n v j - 1) = j + 1 ∧ ¬ W j (dg n v j - 1) = -100)) → B_M_layTwos_49 hm e 1 (nI i) q K := by
      intro k
      induction k with
      | zero =>
        intro i hi hb
        have : i = n := by omega
        subst this
        have := H q h1 h2
        rw [if_pos hb] at this
        exact b_M_layTwos_49 (br_t (by rw [eq]; exact nI_le (Nat.le_refl _) (by omega)) ⟨zb1, this⟩)
      | succ k ih =>
        intro i hi hb
        have ci : (nI i).toNatClampNeg = i := nCl (by omega)
        have v6 : vp_in (nI i) 6 := vIn (by omega) (by omega)
        have dl := dg_le n v i
        have yes : (dg n v i = 0 ∨ (dg n v i ≠ i + 1 ∧ dg n v (dg n v i - 1) = i + 1 ∧ ¬ W i (dg n v i - 1) = -100)) → B_M_layTwos_117 hm e (nI i) q K := by
          intro z
          refine b_M_layTwos_117 (b_M_layTwos_122 ?_)
          rw [nI_1]
          refine ih (i + 1) (by omega) (fun j hj => ?_)
          by_cases y : j = i
          · rw [y]; exact z
          · exact hb j (by omega)
        have no : ¬ (dg n v i = 0 ∨ (dg n v i ≠ i + 1 ∧ dg n v (dg n v i - 1) = i + 1 ∧ ¬ W i (dg n v i - 1) = -100)) → B_M_layTwos_121 hm e (nI i) q K := by
          intro z
          have := H q h1 h2
          rw [if_neg (fun y => z (y i (by omega)))] at this
          refine b_M_layTwos_121 (b_M_layTwos_122 (b_M_layTwos_49 ?_))
          by_cases y : q.1 0 56 ≤ nI i + 1
          · exact br_t y ⟨zb0, this⟩
          · exact br_f y (br_t rfl ⟨zb0, this⟩)
        refine b_M_layTwos_49 (br_f (by rw [eq]; exact nI_ge (by omega) (by omega)) (br_f (by decide) ⟨v6, ?_⟩))
        rw [ci, h2 i (by omega)]
        by_cases c0 : dg n v i = 0
        · exact br_t (by rw [wI_0 c0]; decide) (yes (Or.inl c0))
        · have cp : (nI (dg n v i - 1)).toNatClampNeg = dg n v i - 1 := nCl (by omega)
          rw [wI_p c0, cp, h2 (dg n v i - 1) (by omega)]
          refine br_f (nN0 (by omega)) ⟨v6, ?_⟩
          by_cases c1 : dg n v i = i + 1
          · exact br_t (by rw [c1]; rfl) (no (fun z => by rcases z with z | z; exact c0 z; exact z.1 c1))
          · refine br_f (fun z => c1 (by have := (nEq (by omega) (by omega)).mp z; omega)) ⟨v6, vIn (by omega) (by omega), ?_⟩
            have dl2 := dg_le n v (dg n v i - 1)
            by_cases c2 : dg n v (dg n v i - 1) = i + 1
            · refine br_nt (by rw [c2, wI_p (by omega)]; rfl) ⟨v6, m_isToldM hn hWq (by omega) (by omega) ?_⟩
              by_cases c3 : W i (dg n v i - 1) = -100
              · rw [if_pos c3]; exact br_t rfl (no (fun z => by rcases z with z | z; exact c0 z; exact z.2.2 c3))
              · rw [if_neg c3]; exact br_f (by decide) (yes (Or.inr ⟨c1, c2, c3⟩))
            · refine br_nf (fun z => c2 ?_) (no (fun z => by rcases z with z | z; exact c0 z; exact c2 z.2.1))
              by_cases y : dg n v (dg n v i - 1) = 0
              · rw [wI_0 y] at z; exact absurd z.symm (nM1 (by omega))
              · rw [wI_p y] at z
                have := (nEq (by omega) (by omega)).mp z; omega
    exact go n 0 (by omega) (fun j hj => absurd hj (Nat.not_lt_zero _))
  -- the digits, from the last
  have lay : ∀ i, i ≤ n → ∀ q : xSt, (∀ c, c ≠ 44 → q.1 c = M.1 c) → (∀ j, i ≤ j → j < n → q.1 44 j = wI (dg n v j)) → B_M_layTwos_9 hm e (nI (v / (n + 1) ^ (n - i))) (nI i - 1) q K := by
    intro i
    induction i with
    | zero =>
      intro _ q h1 h2
      exact b_M_layTwos_9 (br_t (by decide) (chk q h1 (fun j hj => h2 j (Nat.zero_le _) hj)))
    | succ i ih =>
      intro hi q h1 h2
      have eq : q.1 0 56 = nI n := by rw [h1 0 (by decide)]; exact em
      have vl : v / (n + 1) ^ (n - (i + 1)) ≤ v := Nat.div_le_self _ _
      have nz : ¬ nI n + 1 = 0 := by rw [nI_1]; exact fun z => absurd ((nEq (b := 0) (by omega) (by omega)).mp z) (by omega)
      rw [nI_pred]
      refine b_M_layTwos_9 (br_f (nN0 (by omega)) ?_)
      rw [eq]
      refine ⟨nz, vIn (by omega) (by omega), nz, ?_⟩
      rw [nI_1, pk_rem (by omega) (by omega) (by omega), pk_div (by omega) (by omega) (by omega), wI_sub, nCl (by omega), add_m1]
      have ed : v / (n + 1) ^ (n - (i + 1)) / (n + 1) = v / (n + 1) ^ (n - i) := by rw [Nat.div_div_eq_div_mul, ← Nat.pow_succ, show (n - (i + 1)).succ = n - i by omega]
      rw [ed]
      refine ih (by omega) _ (fun c hc => by rw [gI_ne _ _ _ hc]; exact h1 c hc) (fun j hj1 hj2 => ?_)
      rw [gI_same]
      by_cases y : j = i
      · rw [y, up_s]; unfold dg; rw [show n - 1 - i = n - (i + 1) by omega]
      · rw [up_n _ _ y]; exact h2 j (by omega) hj2
  refine e_M_layTwos ?_
  rw [em]
  have := lay n (Nat.le_refl _) M (fun c _ => rfl) (fun j h1 h2 => absurd h1 (by omega))
  rw [Nat.sub_self, Nat.pow_zero, Nat.div_one] at this
  exact this
end
