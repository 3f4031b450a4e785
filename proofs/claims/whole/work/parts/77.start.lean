section
variable {hc hm : xH} {d e : Nat} {S M : xSt}
theorem emptyC : ∃ S', (∀ hc d K, K S' → M_Rg_empty_21 hc d S K) ∧ (∀ c, c ≠ 21 → c ≠ 33 → c ≠ 34 → S'.1 c = S.1 c) ∧ S'.2 = S.2 ∧ S'.1 21 0 = 0 ∧ S'.1 21 4 = 0 ∧ S'.1 21 6 = 0 ∧ S'.1 21 14 = 0 ∧ S'.1 21 17 = 8 ∧ S'.1 21 18 = 0 ∧ S'.1 21 19 = 0 ∧ S'.1 34 1 = 0 ∧ S'.1 34 3 = 0 ∧ ∀ j, j < 36 → S'.1 33 j = -100 := by
  have go : ∀ k x (S : xSt), x + k = 36 → ∃ S' : xSt, (∀ hc d K, M_Wr_empty_34 hc d S' (fun (S1) => K (x_putI (x_putI (x_putI S1 21 17 8) 21 18 0) 21 19 0)) → B_Rg_empty_21_22 hc d (nI x) S K) ∧ (∀ c, c ≠ 33 → S'.1 c = S.1 c) ∧ S'.2 = S.2 ∧ (∀ j, j < x → S'.1 33 j = S.1 33 j) ∧ ∀ j, x ≤ j → j < 36 → S'.1 33 j = -100 := by
    intro k
    induction k with
    | zero =>
      intro x S hx
      exact ⟨S, fun hc d K H => b_Rg_empty_21_22 (br_t (nI_le (a := 36) (by omega) (by omega)) H), fun _ _ => rfl, rfl, fun _ _ => rfl, fun j h1 h2 => by omega⟩
    | succ k ih =>
      intro x S hx
      obtain ⟨S', a1, a2, a3, a4, a5⟩ := ih (x + 1) (x_putI S 33 x (-100)) (by omega)
      refine ⟨S', fun hc d K H => b_Rg_empty_21_22 (br_f (nI_ge (b := 36) (by omega) (by omega)) ⟨vIn (by omega) (by omega), ?_⟩), fun c hc => by rw [a2 c hc, gI_ne _ _ _ hc], a3, fun j hj => by rw [a4 j (by omega), gI_same, up_n _ _ (by omega)], fun j h1 h2 => ?_⟩
      · rw [nCl (by omega), nI_1]; exact a1 hc d K H
      · by_cases y : j = x
        · rw [y, a4 x (by omega), gI_same, up_s]
        · exact a5 j (by omega) h2
  obtain ⟨S1, a1, a2, a3, -, a5⟩ := go 36 0 (x_putI (x_putI (x_putI (x_putI S 21 0 0) 21 4 0) 21 6 0) 21 14 0) (by omega)
  refine ⟨x_putI (x_putI (x_putI (x_putI (x_putI S1 34 1 0) 34 3 0) 21 17 8) 21 18 0) 21 19 0, fun hc d K H => e_Rg_empty_21 (a1 hc d K (e_Wr_empty_34 H)), fun c h1 h2 h3 => ?_, a3, ?_, ?_, ?_, ?_, rfl, rfl, rfl, rfl, rfl, fun j hj => a5 j (by omega) hj⟩
  · rw [gI_ne _ _ _ h1, gI_ne _ _ _ h1, gI_ne _ _ _ h1, gI_ne _ _ _ h3, gI_ne _ _ _ h3, a2 c h2, gI_ne _ _ _ h1, gI_ne _ _ _ h1, gI_ne _ _ _ h1, gI_ne _ _ _ h1]
  · show S1.1 21 0 = 0
    rw [a2 21 (by decide)]; rfl
  · show S1.1 21 4 = 0
    rw [a2 21 (by decide)]; rfl
  · show S1.1 21 6 = 0
    rw [a2 21 (by decide)]; rfl
  · show S1.1 21 14 = 0
    rw [a2 21 (by decide)]; rfl
theorem DR0 (s0 : S.1 21 0 = 0) (s4 : S.1 21 4 = 0) (s6 : S.1 21 6 = 0) (s14 : S.1 21 14 = 0) (s17 : S.1 21 17 = 8) (s18 : S.1 21 18 = 0) (s19 : S.1 21 19 = 0) (w1 : S.1 34 1 = 0) (w3 : S.1 34 3 = 0) (h33 : ∀ j, j < 36 → S.1 33 j = -100) (h6 : S.1 18 6 = 0) (m49 : M.1 0 49 = 0) (m50 : M.1 0 50 = 0) (m51 : M.1 0 51 = 0) (m52 : M.1 0 52 = 0) (m53 : M.1 0 53 = 8) (m54 : M.1 0 54 = 0) (m55 : M.1 0 55 = 0) (m62 : M.1 0 62 = 0) (m63 : M.1 0 63 = 0) (m64 : M.1 0 64 = 0) (m65 : M.1 0 65 = 0) (m17 : M.1 0 17 = 0) (m20 : M.1 0 20 = 0) : DR 0 0 0 0 8 0 S M := by
  have z : ∀ (c f : Nat), NRel c f 0 S M := fun c f => ⟨fun _ => [], fun i hi => absurd hi (by omega), fun i j hi => absurd hi (by omega)⟩
  refine ⟨⟨⟨s0, by omega⟩, ⟨s4, by omega⟩, ⟨s6, by omega⟩, ⟨s14, by omega⟩, ⟨s17, by omega, by omega⟩, ⟨s18, by omega⟩, fun m hm => absurd hm (by omega), fun m hm => absurd hm (by omega), fun m hm => absurd hm (by omega), fun i j hi hj => ⟨Or.inl (h33 _ (by omega)), by rw [h33 _ (by omega), h33 _ (by omega)]⟩, fun i hi => h33 _ (by omega)⟩, ⟨⟨by rw [m49, s0], by rw [m50, s4], by rw [m51, s6], by rw [m52, s14], by rw [m53, s17], by rw [m54, s18]⟩, fun m hm => absurd hm (by omega), fun m hm => absurd hm (by omega), fun m hm => absurd hm (by omega), fun i j hi => absurd hi (by omega)⟩, ⟨0, by omega, w1, m17, m62, by rw [m20, w3], fun k hk => absurd hk (by omega)⟩, fun i j hi hj _ => h33 _ (by omega), ⟨z _ _, z _ _, z _ _⟩, ⟨false, false, false, false, h6, m62, m63, m64, m65⟩, by rw [m55, s19], fun _ => w3⟩
theorem startJ (hA : RA (S.1 0 1) (S.1 1) (M.1 0 1) (M.1 1)) : ∃ (t : Nat → Nat) (n : Nat) (S1 M1 : xSt) (k v : Nat) (l : List Nat) (q p : Nat), n ≤ 1600 ∧ (∀ K, B_Rd_readText_26 hc d 1 (nI 0) S1 K → M_Rd_readText hc d (S.1 0 1) S K) ∧ (∀ K, B_M_readAll_98 hm e M1 K → M_M_readAll hm e M K) ∧ FPc S S1 ∧ FPm (x_putI M 0 1 0) M1 ∧ QJ t n k v l q p S1 M1 ∧ k ≤ 5 ∧ DR 0 0 0 0 8 0 S1 M1 := by
  obtain ⟨n, hn, e1, e2, hb⟩ := hA
  obtain ⟨S1, a1, a2, a3, b0, b4, b6, b14, b17, b18, b19, c1, c3, c33⟩ := emptyC (S := S)
  have ht : ∀ j, j < n → ((M.1 1 j).toNatClampNeg < 256 ∧ M.1 1 j = nI (M.1 1 j).toNatClampNeg ∧ S.1 1 j = sb (M.1 1 j).toNatClampNeg) := fun j hj => by
    obtain ⟨b, h1, h2, h3⟩ := hb j hj
    rw [h2, nCl (by omega)]
    exact ⟨h1, rfl, h3⟩
  have lim : (if (1600 : Int32) < S.1 0 1 then 1600 else S.1 0 1) = nI n := by
    rw [if_neg, e1]
    rw [e1]
    exact fun z => by have := (nLt (a := 1600) (by omega) (by omega)).mp z; omega
  have hTC : TC (fun j => (M.1 1 j).toNatClampNeg) n (x_putI (x_putI (x_putI (x_putI (x_putR (x_putI S1 18 6 0) 19 1) 19 1 (nI n)) 19 2 0) 19 7 0) 19 8 (-1)) := by
    refine ⟨hn, fun j hj => (ht j hj).1, fun j hj => ?_, rfl, rfl⟩
    show S1.1 1 j = _
    rw [a2 1 (by decide) (by decide) (by decide)]
    exact (ht j hj).2.2
  have hTM : TM (fun j => (M.1 1 j).toNatClampNeg) n (x_putI (x_putI (x_putI (x_putI (x_putI (x_putI (x_putI (x_putI (x_putI (x_putI (x_putI (x_putI (x_putI (x_putI (x_putI (x_putI (x_putI (x_putI M 0 5 (M.1 0 1)) 0 1 0) 0 4 0) 0 2 0) 0 3 (-1)) 0 49 0) 0 50 0) 0 51 0) 0 52 0) 0 53 8) 0 54 0) 0 55 0) 0 62 0) 0 63 0) 0 64 0) 0 65 0) 0 20 0) 0 17 0) := ⟨hn, fun j hj => (ht j hj).1, fun j hj => (ht j hj).2.1, e2⟩
  obtain ⟨S2, M2, k, v, l, q, p, r1, r2, r3, r4, r5, r6, r7⟩ := adv0 (hc := hc) (hm := hm) (d := d + 67) (e := e + 5) (p := 0) hTC hTM (by omega) rfl rfl
  have mj : ∀ j, j ≠ 4 → j ≠ 6 → j ≠ 7 → j ≠ 8 → M2.1 0 j = _ := r4.2.2.2
  refine ⟨_, n, S2, M2, k, v, l, q, p, hn, fun K H => e_Rd_readText (a1 _ _ _ (e_Tk_open ?_)), fun K H => e_M_readAll (r2 _ H), fun c hc => ?_, ⟨fun c hc => ?_, fun j hj => ?_⟩, ⟨r5, ?_, ?_, ?_, ?_⟩, r7, ?_⟩
  · rw [lim]; exact r1 _ H
  · rw [r3.1 c (by omega), gI_ne _ _ _ (by omega), gI_ne _ _ _ (by omega), gI_ne _ _ _ (by omega), gI_ne _ _ _ (by omega)]
    show (x_putI S1 18 6 0).1 c = _
    rw [gI_ne _ _ _ (by omega)]
    exact a2 c (by omega) (by omega) (by omega)
  · have z1 : ∀ c, c ∈ kM → c ≠ 0 := by decide
    rw [r4.1 c (z1 c hc)]
    have z := z1 c hc
    rw [gI_ne _ _ _ z, gI_ne _ _ _ z, gI_ne _ _ _ z, gI_ne _ _ _ z, gI_ne _ _ _ z, gI_ne _ _ _ z, gI_ne _ _ _ z, gI_ne _ _ _ z, gI_ne _ _ _ z, gI_ne _ _ _ z, gI_ne _ _ _ z, gI_ne _ _ _ z, gI_ne _ _ _ z, gI_ne _ _ _ z, gI_ne _ _ _ z, gI_ne _ _ _ z, gI_ne _ _ _ z, gI_ne _ _ _ z, gI_ne _ _ _ z]
  · simp only [kJ, List.mem_cons, List.mem_nil_iff, or_false] at hj
    rcases hj with rfl | rfl | rfl | rfl | rfl | rfl | rfl | rfl | rfl | rfl | rfl | rfl | rfl | rfl | rfl
    all_goals (rw [mj _ (by decide) (by decide) (by decide) (by decide)]; rfl)
  · rw [r3.2.2.2 7 (by omega)]; rfl
  · rw [r3.2.2.2 8 (by omega)]; rfl
  · rw [mj 2 (by decide) (by decide) (by decide) (by decide)]; rfl
  · rw [mj 3 (by decide) (by decide) (by decide) (by decide)]; rfl
  · have sc : ∀ c, c ≠ 18 → c ≠ 19 → S2.1 c = S1.1 c := fun c h1 h2 => by
      rw [r3.1 c h2, gI_ne _ _ _ h2, gI_ne _ _ _ h2, gI_ne _ _ _ h2, gI_ne _ _ _ h2]
      show (x_putI S1 18 6 0).1 c = _
      rw [gI_ne _ _ _ h1]
    refine DR0 ?_ ?_ ?_ ?_ ?_ ?_ ?_ ?_ ?_ (fun j hj => ?_) ?_ ?_ ?_ ?_ ?_ ?_ ?_ ?_ ?_ ?_ ?_ ?_ ?_ ?_
    · rw [sc 21 (by decide) (by decide)]; exact b0
    · rw [sc 21 (by decide) (by decide)]; exact b4
    · rw [sc 21 (by decide) (by decide)]; exact b6
    · rw [sc 21 (by decide) (by decide)]; exact b14
    · rw [sc 21 (by decide) (by decide)]; exact b17
    · rw [sc 21 (by decide) (by decide)]; exact b18
    · rw [sc 21 (by decide) (by decide)]; exact b19
    · rw [sc 34 (by decide) (by decide)]; exact c1
    · rw [sc 34 (by decide) (by decide)]; exact c3
    · rw [sc 33 (by decide) (by decide)]; exact c33 j hj
    · rw [r3.1 18 (by decide)]; rfl
    all_goals (rw [mj _ (by decide) (by decide) (by decide) (by decide)]; rfl)
end
