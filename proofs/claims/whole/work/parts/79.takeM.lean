section
variable {hc hm : xH} {d e : Nat} {S M : xSt}
theorem r98 {n : Nat} (hn : n ≤ 300) : ∀ k x (M : xSt), x + k = n → M.1 0 18 = nI n → ∃ M', (∀ K, B_M_regiment_138 hm e 0 M' K → B_M_regiment_98 hm e (nI x) M K) ∧ (∀ c, c ≠ 5 → c ≠ 6 → M'.1 c = M.1 c) ∧ (∀ j, j < x → M'.1 5 j = M.1 5 j ∧ M'.1 6 j = M.1 6 j) ∧ ∀ j, x ≤ j → j < n → M'.1 5 j = M.1 3 j ∧ M'.1 6 j = M.1 4 j := by
  intro k
  induction k with
  | zero =>
    intro x M hx h18
    exact ⟨M, fun K H => b_M_regiment_98 (br_t (by rw [h18]; exact nI_le (by omega) (by omega)) H), fun _ _ _ => rfl, fun _ _ => ⟨rfl, rfl⟩, fun j h1 h2 => by omega⟩
  | succ k ih =>
    intro x M hx h18
    obtain ⟨M', a1, a2, a3, a4⟩ := ih (x + 1) (x_putI (x_putI M 5 x (M.1 3 x)) 6 x (M.1 4 x)) (by omega) h18
    have v : vp_in (nI x) 320 := vIn (by omega) (by omega)
    refine ⟨M', fun K H => b_M_regiment_98 (br_f (by rw [h18]; exact nI_ge (by omega) (by omega)) ⟨v, v, v, v, ?_⟩), fun c h1 h2 => by rw [a2 c h1 h2, gI_ne _ _ _ h2, gI_ne _ _ _ h1], fun j hj => ?_, fun j h1 h2 => ?_⟩
    · rw [nCl (by omega), nI_1]; exact a1 K H
    · rw [(a3 j (by omega)).1, (a3 j (by omega)).2, gI_ne _ _ _ (by decide), gI_same, up_n _ _ (by omega), gI_same, up_n _ _ (by omega)]
      exact ⟨rfl, rfl⟩
    · by_cases y : j = x
      · subst y
        rw [(a3 j (by omega)).1, (a3 j (by omega)).2, gI_ne _ _ _ (by decide), gI_same, up_s, gI_same, up_s]
        exact ⟨rfl, rfl⟩
      · rw [(a4 j (by omega) h2).1, (a4 j (by omega) h2).2]
        exact ⟨rfl, rfl⟩
theorem r194 {x1 : Nat} (h6 : x1 < 6) : ∀ k x (M : xSt), x + k = 6 → ∃ M', (∀ K, B_M_regiment_138 hm e (nI (x1 + 1)) M' K → B_M_regiment_194 hm e (nI x1) (nI x) M K) ∧ (∀ c, c ≠ 19 → M'.1 c = M.1 c) ∧ (∀ j, j < 6 * x1 + x ∨ 6 * x1 + 6 ≤ j → M'.1 19 j = M.1 19 j) ∧ ∀ j, 6 * x1 + x ≤ j → j < 6 * x1 + 6 → M'.1 19 j = M.1 14 j := by
  intro k
  induction k with
  | zero =>
    intro x M hx
    refine ⟨M, fun K H => b_M_regiment_194 (br_t (nI_le (a := 6) (by omega) (by omega)) ?_), fun _ _ => rfl, fun _ _ => rfl, fun j h1 h2 => by omega⟩
    rw [nI_1]; exact H
  | succ k ih =>
    intro x M hx
    obtain ⟨M', a1, a2, a3, a4⟩ := ih (x + 1) (x_putI M 19 (6 * x1 + x) (M.1 14 (6 * x1 + x))) (by omega)
    have e1 : (6 : Int32) * nI x1 + nI x = nI (6 * x1 + x) := by rw [show (6 : Int32) = nI 6 from rfl, pk_mul, nI_add]
    refine ⟨M', fun K H => b_M_regiment_194 (br_f (nI_ge (b := 6) (by omega) (by omega)) ?_), fun c h1 => by rw [a2 c h1, gI_ne _ _ _ h1], fun j hj => ?_, fun j h1 h2 => ?_⟩
    · rw [e1, nCl (by omega), nI_1]
      exact ⟨vIn (by omega) (by omega), vIn (by omega) (by omega), a1 K H⟩
    · rw [a3 j (by omega), gI_same, up_n _ _ (by omega)]
    · by_cases y : j = 6 * x1 + x
      · rw [a3 j (by omega), gI_same, y, up_s]
      · rw [a4 j (by omega) h2]; rfl
theorem r138 : ∀ k x (M : xSt), x + k = 6 → ∃ M', (∀ K, B_M_regiment_236 hm e 0 M' K → B_M_regiment_138 hm e (nI x) M K) ∧ (∀ c, c < 15 ∨ 19 < c → M'.1 c = M.1 c) ∧ (∀ j, j < x → M'.1 15 j = M.1 15 j ∧ M'.1 16 j = M.1 16 j ∧ M'.1 17 j = M.1 17 j ∧ M'.1 18 j = M.1 18 j) ∧ (∀ j, x ≤ j → j < 6 → M'.1 15 j = M.1 10 j ∧ M'.1 16 j = M.1 11 j ∧ M'.1 17 j = M.1 12 j ∧ M'.1 18 j = M.1 13 j) ∧ (∀ j, j < 6 * x → M'.1 19 j = M.1 19 j) ∧ ∀ j, 6 * x ≤ j → j < 36 → M'.1 19 j = M.1 14 j := by
  intro k
  induction k with
  | zero =>
    intro x M hx
    exact ⟨M, fun K H => b_M_regiment_138 (br_t (nI_le (a := 6) (by omega) (by omega)) H), fun _ _ => rfl, fun _ _ => ⟨rfl, rfl, rfl, rfl⟩, fun j h1 h2 => by omega, fun _ _ => rfl, fun j h1 h2 => by omega⟩
  | succ k ih =>
    intro x M hx
    obtain ⟨M1, b1, b2, b3, b4⟩ := r194 (hm := hm) (e := e) (x1 := x) (by omega) 6 0 (x_putI (x_putI (x_putI (x_putI M 15 x (M.1 10 x)) 16 x (M.1 11 x)) 17 x (M.1 12 x)) 18 x (M.1 13 x)) (by omega)
    obtain ⟨M', a1, a2, a3, a4, a5, a6⟩ := ih (x + 1) M1 (by omega)
    have v : vp_in (nI x) 6 := vIn (by omega) (by omega)
    have fr : ∀ c, c < 15 ∨ 18 < c → c ≠ 19 → M1.1 c = M.1 c := fun c h1 h2 => by rw [b2 c h2, gI_ne _ _ _ (by omega), gI_ne _ _ _ (by omega), gI_ne _ _ _ (by omega), gI_ne _ _ _ (by omega)]
    have f15 : M1.1 15 = upd (M.1 15) x (M.1 10 x) := by rw [b2 15 (by decide)]; rfl
    have f16 : M1.1 16 = upd (M.1 16) x (M.1 11 x) := by rw [b2 16 (by decide)]; rfl
    have f17 : M1.1 17 = upd (M.1 17) x (M.1 12 x) := by rw [b2 17 (by decide)]; rfl
    have f18 : M1.1 18 = upd (M.1 18) x (M.1 13 x) := by rw [b2 18 (by decide)]; rfl
    refine ⟨M', fun K H => b_M_regiment_138 (br_f (nI_ge (b := 6) (by omega) (by omega)) ⟨v, v, v, v, v, v, v, v, ?_⟩), fun c h1 => by rw [a2 c h1, fr c (by omega) (by omega)], fun j hj => ?_, fun j h1 h2 => ?_, fun j hj => ?_, fun j h1 h2 => ?_⟩
    · rw [nCl (by omega)]; exact b1 K (a1 K H)
    · obtain ⟨c1, c2, c3, c4⟩ := a3 j (by omega)
      rw [c1, c2, c3, c4, f15, f16, f17, f18, up_n _ _ (by omega), up_n _ _ (by omega), up_n _ _ (by omega), up_n _ _ (by omega)]
      exact ⟨rfl, rfl, rfl, rfl⟩
    · by_cases y : j = x
      · subst y
        obtain ⟨c1, c2, c3, c4⟩ := a3 j (by omega)
        rw [c1, c2, c3, c4, f15, f16, f17, f18, up_s, up_s, up_s, up_s]
        exact ⟨rfl, rfl, rfl, rfl⟩
      · obtain ⟨c1, c2, c3, c4⟩ := a4 j (by omega) h2
        rw [c1, c2, c3, c4, fr 10 (by omega) (by omega), fr 11 (by omega) (by omega), fr 12 (by omega) (by omega), fr 13 (by omega) (by omega)]
        exact ⟨rfl, rfl, rfl, rfl⟩
    · rw [a5 j (by omega), b3 j (by omega)]; rfl
    · by_cases y : j < 6 * x + 6
      · rw [a5 j (by omega), b4 j (by omega) (by omega)]; rfl
      · rw [a6 j (by omega) h2, fr 14 (by omega) (by omega)]
theorem r236 : ∀ k x (M : xSt), x + k = 23 → ∃ M', (∀ K, B_M_regiment_257 hm e 0 M' K → B_M_regiment_236 hm e (nI x) M K) ∧ (∀ c, c ≠ 34 → M'.1 c = M.1 c) ∧ (∀ j, j < x → M'.1 34 j = M.1 34 j) ∧ ∀ j, x ≤ j → j < 23 → M'.1 34 j = 0 := by
  intro k
  induction k with
  | zero =>
    intro x M hx
    exact ⟨M, fun K H => b_M_regiment_236 (br_t (nI_le (a := 23) (by omega) (by omega)) H), fun _ _ => rfl, fun _ _ => rfl, fun j h1 h2 => by omega⟩
  | succ k ih =>
    intro x M hx
    obtain ⟨M', a1, a2, a3, a4⟩ := ih (x + 1) (x_putI M 34 x 0) (by omega)
    refine ⟨M', fun K H => b_M_regiment_236 (br_f (nI_ge (b := 23) (by omega) (by omega)) ⟨vIn (by omega) (by omega), ?_⟩), fun c h1 => by rw [a2 c h1, gI_ne _ _ _ h1], fun j hj => by rw [a3 j (by omega), gI_same, up_n _ _ (by omega)], fun j h1 h2 => ?_⟩
    · rw [nCl (by omega), nI_1]; exact a1 K H
    · by_cases y : j = x
      · rw [a3 j (by omega), gI_same, y, up_s]
      · exact a4 j (by omega) h2
theorem r413 : ∀ k x (M : xSt), x + k = 3 → ∃ M', (∀ K : Int32 → xSt → Prop, K (M'.1 0 58) M' → B_M_regiment_413 hm e (nI x) M K) ∧ (∀ c, c ≠ 50 → M'.1 c = M.1 c) ∧ (∀ j, j < x → M'.1 50 j = M.1 50 j) ∧ ∀ j, x ≤ j → j < 3 → M'.1 50 j = 0 := by
  intro k
  induction k with
  | zero =>
    intro x M hx
    exact ⟨M, fun K H => b_M_regiment_413 (br_t (nI_le (a := 3) (by omega) (by omega)) H), fun _ _ => rfl, fun _ _ => rfl, fun j h1 h2 => by omega⟩
  | succ k ih =>
    intro x M hx
    obtain ⟨M', a1, a2, a3, a4⟩ := ih (x + 1) (x_putI M 50 x (vp_nar .boolean 0)) (by omega)
    refine ⟨M', fun K H => b_M_regiment_413 (br_f (nI_ge (b := 3) (by omega) (by omega)) ⟨vIn (by omega) (by omega), ?_⟩), fun c h1 => by rw [a2 c h1, gI_ne _ _ _ h1], fun j hj => by rw [a3 j (by omega), gI_same, up_n _ _ (by omega)], fun j h1 h2 => ?_⟩
    · rw [nCl (by omega), nI_1]; exact a1 K H
    · by_cases y : j = x
      · rw [a3 j (by omega), gI_same, y, up_s]; decide
      · exact a4 j (by omega) h2
theorem r257 {nb : Nat} (hnb : nb ≤ 10) : ∀ k x (M : xSt), x + k = 10 → M.1 0 58 = nI nb → ∃ M', (∀ K, B_M_regiment_413 hm e 0 (x_putI (x_putI (x_putI (x_putI (x_putI M' 34 21 (M'.1 0 55)) 0 69 0) 0 70 0) 0 93 0) 0 85 0) K → B_M_regiment_257 hm e (nI x) M K) ∧ (∀ c, c < 26 ∨ c = 32 ∨ 34 < c → M'.1 c = M.1 c) ∧ (∀ b, b < x → M'.1 26 b = M.1 26 b ∧ M'.1 27 b = M.1 27 b ∧ M'.1 28 b = M.1 28 b ∧ M'.1 33 b = M.1 33 b ∧ M'.1 29 b = M.1 29 b ∧ M'.1 30 b = M.1 30 b ∧ M'.1 31 b = M.1 31 b) ∧ (∀ b, x ≤ b → b < 10 → M'.1 26 b = M.1 20 b ∧ M'.1 27 b = M.1 21 b ∧ M'.1 28 b = M.1 22 b ∧ M'.1 33 b = vp_nar .boolean (M.1 32 b) ∧ M'.1 29 b = M.1 23 b ∧ M'.1 30 b = M.1 24 b ∧ M'.1 31 b = M.1 25 b) ∧ (∀ j, j < 10 + x ∨ 20 ≤ j → M'.1 34 j = M.1 34 j) ∧ ∀ b, x ≤ b → b < 10 → M'.1 34 (10 + b) = if b < nb then M.1 24 b else 0 := by
  intro k
  induction k with
  | zero =>
    intro x M hx h58
    exact ⟨M, fun K H => b_M_regiment_257 (br_t (nI_le (a := 10) (by omega) (by omega)) H), fun _ _ => rfl, fun _ _ => ⟨rfl, rfl, rfl, rfl, rfl, rfl, rfl⟩, fun j h1 h2 => by omega, fun _ _ => rfl, fun j h1 h2 => by omega⟩
  | succ k ih =>
    intro x M hx h58
    have v : vp_in (nI x) 10 := vIn (by omega) (by omega)
    have e1 : (10 : Int32) + nI x = nI (10 + x) := by rw [show (10 : Int32) = nI 10 from rfl, nI_add]
    have v2 : vp_in ((10 : Int32) + nI x) 24 := by rw [e1]; exact vIn (by omega) (by omega)
    obtain ⟨M', a1, a2, a3, a4, a5, a6⟩ := ih (x + 1) (x_putI (x_putI (x_putI (x_putI (x_putI (x_putI (x_putI (x_putI M 26 x (M.1 20 x)) 27 x (M.1 21 x)) 28 x (M.1 22 x)) 33 x (vp_nar .boolean (M.1 32 x))) 29 x (M.1 23 x)) 30 x (M.1 24 x)) 31 x (M.1 25 x)) 34 (10 + x) (if x < nb then M.1 24 x else 0)) (by omega) h58
    refine ⟨M', fun K H => b_M_regiment_257 (br_f (nI_ge (b := 10) (by omega) (by omega)) ⟨v, v, v, v, v, v, v, v, v, v, v, v, v, v, ?_⟩), fun c h1 => by rw [a2 c h1, gI_ne _ _ _ (by omega), gI_ne _ _ _ (by omega), gI_ne _ _ _ (by omega), gI_ne _ _ _ (by omega), gI_ne _ _ _ (by omega), gI_ne _ _ _ (by omega), gI_ne _ _ _ (by omega), gI_ne _ _ _ (by omega)], fun b hb => ?_, fun b h1 h2 => ?_, fun j hj => ?_, fun b h1 h2 => ?_⟩
    · rw [nCl (by omega), h58]
      by_cases y : x < nb
      · rw [if_pos y] at a1
        refine br_f (nI_ge y (by omega)) ⟨v, b_M_regiment_373 ⟨v2, ?_⟩⟩
        rw [e1, nCl (by omega), nI_1]; exact a1 K H
      · rw [if_neg y] at a1
        refine br_t (nI_le (by omega) (by omega)) (b_M_regiment_373 ⟨v2, ?_⟩)
        rw [e1, nCl (by omega), nI_1]; exact a1 K H
    · obtain ⟨c1, c2, c3, c4, c5, c6, c7⟩ := a3 b (by omega)
      have u : ∀ (f : Nat → Int32) w, upd f x w b = f b := fun f w => up_n _ _ (by omega)
      exact ⟨c1.trans (u _ _), c2.trans (u _ _), c3.trans (u _ _), c4.trans (u _ _), c5.trans (u _ _), c6.trans (u _ _), c7.trans (u _ _)⟩
    · by_cases y : b = x
      · subst y
        obtain ⟨c1, c2, c3, c4, c5, c6, c7⟩ := a3 b (by omega)
        have u : ∀ (f : Nat → Int32) w, upd f b w b = w := fun f w => up_s _ _ _
        exact ⟨c1.trans (u _ _), c2.trans (u _ _), c3.trans (u _ _), c4.trans (u _ _), c5.trans (u _ _), c6.trans (u _ _), c7.trans (u _ _)⟩
      · exact a4 b (by omega) h2
    · have u : ∀ (f : Nat → Int32) w, upd f (10 + x) w j = f j := fun f w => up_n _ _ (by omega)
      exact (a5 j (by omega)).trans (u _ _)
    · by_cases y : b = x
      · subst y
        have u : ∀ (f : Nat → Int32) w, upd f (10 + b) w (10 + b) = w := fun f w => up_s _ _ _
        exact (a5 (10 + b) (by omega)).trans (u _ _)
      · exact a6 b (by omega) h2
theorem wOk_c {n : Nat} {code step arg code' step' arg' : Nat → Int32} (h : wOk n code step arg) (g : ∀ k, k < n → code' k = code k ∧ step' k = step k ∧ arg' k = arg k) : wOk n code' step' arg' := by
  have dp : ∀ k, k ≤ n → wDep step' k = wDep step k := by
    intro k
    induction k with
    | zero => intro _; rfl
    | succ k ih => intro hk; simp only [wDep]; rw [ih (by omega), (g k (by omega)).2.1]
  intro k hk
  obtain ⟨g1, g2, g3⟩ := g k hk
  rw [g1, g2, g3, dp k (by omega), dp (k + 1) (by omega)]
  exact h k hk
end
