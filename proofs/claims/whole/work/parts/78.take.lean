section
variable {hc hm : xH} {d e : Nat} {S M : xSt}
def CP (dn : List (Nat × Nat × Nat)) (js : List Nat) (S S' : xSt) : Prop := (∀ c, c < 2 ∨ 16 < c → S'.1 c = S.1 c) ∧ (∀ x, x ∈ dn → ∀ j, j < x.2.2 → S'.1 x.2.1 j = S.1 x.1 j) ∧ (∀ j, j ∈ js → S'.1 2 j = S.1 21 j)
theorem copyC {r0 r1 nr : Nat} (hr0 : layC[r0]? = some (.inl (0, nr))) (hr1 : layC[r1]? = some (.inl (0, nr))) (hn : nr ≤ 100) (hne : r0 ≠ r1) : ∃ S', (∀ hc d K, K S' → M_Rg_copy hc d r0 r1 S K) ∧ (∀ c, c ≠ r1 → S'.1 c = S.1 c) ∧ ∀ j, j < nr → S'.1 r1 j = S.1 r0 j := by
  have go : ∀ k x (S : xSt), x + k = nr → ∃ S' : xSt, (∀ hc d K, K S' → B_Rg_copy_2 hc d r0 r1 (nI x) S K) ∧ (∀ c, c ≠ r1 → S'.1 c = S.1 c) ∧ (∀ j, j < x → S'.1 r1 j = S.1 r1 j) ∧ ∀ j, x ≤ j → j < nr → S'.1 r1 j = S.1 r0 j := by
    intro k
    induction k with
    | zero =>
      intro x S hx
      exact ⟨S, fun hc d K H => b_Rg_copy_2 hr0 hr1 (br_t (nI_le (by omega) (by omega)) H), fun _ _ => rfl, fun _ _ => rfl, fun j h1 h2 => by omega⟩
    | succ k ih =>
      intro x S hx
      obtain ⟨S', a1, a2, a3, a4⟩ := ih (x + 1) (x_putI S r1 x (S.1 r0 x)) (by omega)
      refine ⟨S', fun hc d K H => b_Rg_copy_2 hr0 hr1 (br_f (nI_ge (by omega) (by omega)) (br_f (nI_ge (by omega) (by omega)) ⟨vIn (by omega) (by omega), vIn (by omega) (by omega), ?_⟩)), fun c hc => by rw [a2 c hc, gI_ne _ _ _ hc], fun j hj => by rw [a3 j (by omega), gI_same, up_n _ _ (by omega)], fun j h1 h2 => ?_⟩
      · rw [nCl (by omega), nI_1]; exact a1 hc d K H
      · by_cases y : j = x
        · rw [y, a3 x (by omega), gI_same, up_s]
        · rw [a4 j (by omega) h2, gI_ne _ _ _ hne]
  obtain ⟨S', a1, a2, -, a4⟩ := go nr 0 S (by omega)
  exact ⟨S', fun hc d K H => e_Rg_copy hr0 hr1 (a1 hc d K H), a2, fun j hj => a4 j (by omega) hj⟩
theorem CP.copy {S' : xSt} {dn : List (Nat × Nat × Nat)} {js : List Nat} {r0 r1 nr : Nat} (h : CP dn js S S') (hr0 : layC[r0]? = some (.inl (0, nr))) (hr1 : layC[r1]? = some (.inl (0, nr))) (hn : nr ≤ 100) (h0 : 16 < r0) (h1 : 2 < r1) (h2 : r1 ≤ 16) (hd : ∀ x, x ∈ dn → x.2.1 ≠ r1) : ∃ S2, (∀ hc d K, K S2 → M_Rg_copy hc d r0 r1 S' K) ∧ CP ((r0, r1, nr) :: dn) js S S2 := by
  obtain ⟨S2, a1, a2, a3⟩ := copyC (S := S') hr0 hr1 hn (by omega)
  refine ⟨S2, a1, fun c hc => by rw [a2 c (by omega)]; exact h.1 c hc, fun x hx j hj => ?_, fun j hj => by rw [a2 2 (by omega)]; exact h.2.2 j hj⟩
  rcases List.mem_cons.mp hx with y | y
  · subst y
    have : S2.1 r1 j = S'.1 r0 j := a3 j hj
    show S2.1 r1 j = S.1 r0 j
    rw [this, h.1 r0 (by omega)]
  · rw [a2 _ (hd x y)]; exact h.2.1 x y j hj
theorem CP.two {S' : xSt} {dn : List (Nat × Nat × Nat)} {js : List Nat} {j : Nat} (h : CP dn js S S') (hd : ∀ x, x ∈ dn → x.2.1 ≠ 2) : CP dn (j :: js) S (x_putI S' 2 j (S'.1 21 j)) := by
  refine ⟨fun c hc => by rw [gI_ne _ _ _ (by omega)]; exact h.1 c hc, fun x hx i hi => by rw [gI_ne _ _ _ (hd x hx)]; exact h.2.1 x hx i hi, fun i hi => ?_⟩
  rw [gI_same]
  by_cases y : i = j
  · rw [y, up_s, h.1 21 (by omega)]
  · rw [up_n _ _ y]
    rcases List.mem_cons.mp hi with z | z
    · exact absurd z y
    · exact h.2.2 i z
theorem cpy_at (f g : Nat → Int32) {n j : Nat} (h : j < n) : va_cpy f g 0 0 n j = f j := by
  unfold va_cpy
  simp [h]
abbrev dnL : List (Nat × Nat × Nat) := [(33, 14, 36), (32, 13, 10), (31, 12, 10), (30, 11, 10), (29, 10, 10), (28, 9, 10), (27, 8, 10), (26, 7, 10), (25, 6, 6), (24, 5, 6), (23, 4, 6), (22, 3, 6)]
theorem takeC : ∃ S', (∀ hc d K, K S' → M_Rg_takeOver_2 hc d S K) ∧ CP dnL [19, 18, 17, 14, 6, 4, 0] S S' ∧ S'.1 15 1 = S.1 34 1 ∧ S'.1 15 3 = S.1 34 3 ∧ ∀ j, j < 300 → S'.1 16 j = S.1 35 j := by
  have c0 : CP [] [] S S := ⟨fun _ _ => rfl, fun x hx => absurd hx (by simp), fun j hj => absurd hj (by simp)⟩
  have c0' : CP [] [0] S (x_putI S 2 0 (S.1 21 0)) := c0.two (by simp)
  obtain ⟨S1, a1, c1⟩ := c0'.copy (r0 := 22) (r1 := 3) (nr := 6) rfl rfl (by omega) (by omega) (by omega) (by omega) (by simp)
  obtain ⟨S2, a2, c2⟩ := c1.copy (r0 := 23) (r1 := 4) (nr := 6) rfl rfl (by omega) (by omega) (by omega) (by omega) (by decide)
  obtain ⟨S3, a3, c3⟩ := c2.copy (r0 := 24) (r1 := 5) (nr := 6) rfl rfl (by omega) (by omega) (by omega) (by omega) (by decide)
  have c3' := c3.two (j := 4) (by decide)
  obtain ⟨S4, a4, c4⟩ := c3'.copy (r0 := 25) (r1 := 6) (nr := 6) rfl rfl (by omega) (by omega) (by omega) (by omega) (by decide)
  have c4' := c4.two (j := 6) (by decide)
  obtain ⟨S5, a5, c5⟩ := c4'.copy (r0 := 26) (r1 := 7) (nr := 10) rfl rfl (by omega) (by omega) (by omega) (by omega) (by decide)
  obtain ⟨S6, a6, c6⟩ := c5.copy (r0 := 27) (r1 := 8) (nr := 10) rfl rfl (by omega) (by omega) (by omega) (by omega) (by decide)
  obtain ⟨S7, a7, c7⟩ := c6.copy (r0 := 28) (r1 := 9) (nr := 10) rfl rfl (by omega) (by omega) (by omega) (by omega) (by decide)
  obtain ⟨S8, a8, c8⟩ := c7.copy (r0 := 29) (r1 := 10) (nr := 10) rfl rfl (by omega) (by omega) (by omega) (by omega) (by decide)
  obtain ⟨S9, a9, c9⟩ := c8.copy (r0 := 30) (r1 := 11) (nr := 10) rfl rfl (by omega) (by omega) (by omega) (by omega) (by decide)
  obtain ⟨S10, a10, c10⟩ := c9.copy (r0 := 31) (r1 := 12) (nr := 10) rfl rfl (by omega) (by omega) (by omega) (by omega) (by decide)
  obtain ⟨S11, a11, c11⟩ := c10.copy (r0 := 32) (r1 := 13) (nr := 10) rfl rfl (by omega) (by omega) (by omega) (by omega) (by decide)
  have c11' := c11.two (j := 14) (by decide)
  obtain ⟨S12, a12, c12⟩ := c11'.copy (r0 := 33) (r1 := 14) (nr := 36) rfl rfl (by omega) (by omega) (by omega) (by omega) (by decide)
  have cW : CP dnL [14, 6, 4, 0] S (x_putI (x_putI (x_putA S12 16 (va_cpy (S12.1 35) (S12.1 16) 0 0 300)) 15 1 (S12.1 34 1)) 15 3 (S12.1 34 3)) := by
    have fr : ∀ c, c ≠ 15 → c ≠ 16 → (x_putI (x_putI (x_putA S12 16 (va_cpy (S12.1 35) (S12.1 16) 0 0 300)) 15 1 (S12.1 34 1)) 15 3 (S12.1 34 3)).1 c = S12.1 c := fun c h1 h2 => by
      rw [gI_ne _ _ _ h1, gI_ne _ _ _ h1]
      exact if_neg h2
    have z : ∀ x : Nat × Nat × Nat, x ∈ dnL → x.2.1 ≠ 15 ∧ x.2.1 ≠ 16 := by decide
    exact ⟨fun c hc => by rw [fr c (by omega) (by omega)]; exact c12.1 c hc, fun x hx j hj => by rw [fr _ (z x hx).1 (z x hx).2]; exact c12.2.1 x hx j hj, fun j hj => by rw [fr 2 (by decide) (by decide)]; exact c12.2.2 j hj⟩
  refine ⟨_, fun hc d K H => e_Rg_takeOver_2 (a1 _ _ _ (a2 _ _ _ (a3 _ _ _ (a4 _ _ _ (a5 _ _ _ (a6 _ _ _ (a7 _ _ _ (a8 _ _ _ (a9 _ _ _ (a10 _ _ _ (a11 _ _ _ (a12 _ _ _ (e_Wr_takeOver_15 ⟨by decide, H⟩))))))))))))), ((cW.two (j := 17) (by decide)).two (j := 18) (by decide)).two (j := 19) (by decide), ?_, ?_, fun j hj => ?_⟩
  · show S12.1 34 1 = _
    rw [c12.1 34 (by omega)]
  · show S12.1 34 3 = _
    rw [c12.1 34 (by omega)]
  · show va_cpy (S12.1 35) (S12.1 16) 0 0 300 j = _
    rw [cpy_at _ _ hj, c12.1 35 (by omega)]
theorem sewC : ∃ S', (∀ hc d K, K S' → M_Co_sewAllAsTold hc d S K) ∧ (∀ c, c ≠ 42 → S'.1 c = S.1 c) ∧ (∀ b, b < 10 → S'.1 42 b = 0 ∧ S'.1 42 (10 + b) = S.1 12 b) ∧ S'.1 42 20 = 0 ∧ S'.1 42 21 = S.1 2 19 ∧ S'.1 42 22 = 0 := by
  have go : ∀ k x (S : xSt), x + k = 10 → ∃ S' : xSt, (∀ hc d K, K (x_putI (x_putI (x_putI S' 42 20 0) 42 21 (S'.1 2 19)) 42 22 0) → B_Co_sewAllAsTold_2 hc d (nI x) S K) ∧ (∀ c, c ≠ 42 → S'.1 c = S.1 c) ∧ (∀ b, b < x → S'.1 42 b = S.1 42 b ∧ S'.1 42 (10 + b) = S.1 42 (10 + b)) ∧ ∀ b, x ≤ b → b < 10 → S'.1 42 b = 0 ∧ S'.1 42 (10 + b) = S.1 12 b := by
    intro k
    induction k with
    | zero =>
      intro x S hx
      exact ⟨S, fun hc d K H => b_Co_sewAllAsTold_2 (br_t (nI_le (a := 10) (by omega) (by omega)) H), fun _ _ => rfl, fun _ _ => ⟨rfl, rfl⟩, fun j h1 h2 => by omega⟩
    | succ k ih =>
      intro x S hx
      obtain ⟨S', a1, a2, a3, a4⟩ := ih (x + 1) (x_putI (x_putI S 42 x 0) 42 (10 + x) (S.1 12 x)) (by omega)
      have e1 : (10 : Int32) + nI x = nI (10 + x) := by rw [show (10 : Int32) = nI 10 from rfl, nI_add]
      refine ⟨S', fun hc d K H => b_Co_sewAllAsTold_2 (br_f (nI_ge (b := 10) (by omega) (by omega)) ?_), fun c hc => by rw [a2 c hc, gI_ne _ _ _ hc, gI_ne _ _ _ hc], fun b hb => ?_, fun b h1 h2 => ?_⟩
      · rw [e1, nCl (by omega), nCl (by omega), nI_1]
        exact ⟨vIn (by omega) (by omega), vIn (by omega) (by omega), vIn (by omega) (by omega), a1 hc d K H⟩
      · rw [(a3 b (by omega)).1, (a3 b (by omega)).2, gI_same, up_n _ _ (by omega), gI_same, up_n _ _ (by omega), up_n _ _ (by omega), up_n _ _ (by omega)]
        exact ⟨rfl, rfl⟩
      · by_cases y : b = x
        · subst y
          rw [(a3 b (by omega)).1, (a3 b (by omega)).2, gI_same, up_n _ _ (by omega), gI_same, up_s, up_s]
          exact ⟨rfl, rfl⟩
        · rw [(a4 b (by omega) h2).1, (a4 b (by omega) h2).2, gI_ne _ _ _ (by decide), gI_ne _ _ _ (by decide)]
          exact ⟨rfl, rfl⟩
  obtain ⟨S', a1, a2, -, a4⟩ := go 10 0 S (by omega)
  refine ⟨x_putI (x_putI (x_putI S' 42 20 0) 42 21 (S'.1 2 19)) 42 22 0, fun hc d K H => e_Co_sewAllAsTold (a1 hc d K H), fun c hc => by rw [gI_ne _ _ _ hc, gI_ne _ _ _ hc, gI_ne _ _ _ hc]; exact a2 c hc, fun b hb => ?_, rfl, ?_, rfl⟩
  · rw [gI_same, up_n _ _ (by omega), up_n _ _ (by omega), gI_same, up_n _ _ (by omega), up_n _ _ (by omega), gI_same, up_n _ _ (by omega), up_n _ _ (by omega)]
    exact a4 b (by omega) hb
  · show S'.1 2 19 = _
    rw [a2 2 (by decide)]
end
