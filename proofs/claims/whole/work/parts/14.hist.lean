section
theorem pA_self (S : xSt) (c : Nat) : x_putA S c (S.1 c) = S := by
  obtain ⟨a, b⟩ := S
  show ((fun c' => if c' = c then a c else a c'), b) = (a, b)
  congr 1
  funext c'
  by_cases h : c' = c
  · rw [if_pos h, h]
  · rw [if_neg h]
theorem pI_A (S : xSt) (c j : Nat) (v : Int32) : x_putI S c j v = x_putA S c (upd (S.1 c) j v) := rfl
theorem pA_A (S : xSt) (c : Nat) (f g : Nat → Int32) : x_putA (x_putA S c f) c g = x_putA S c g := by
  unfold x_putA
  congr 1
  funext c'
  by_cases h : c' = c
  · simp [h]
  · simp [h]
theorem gA_s (S : xSt) (c : Nat) (f : Nat → Int32) : (x_putA S c f).1 c = f := if_pos rfl
theorem gA_n (S : xSt) {c c' : Nat} (f : Nat → Int32) (h : c' ≠ c) : (x_putA S c f).1 c' = S.1 c' := if_neg h
theorem pI_pA (S : xSt) (c j : Nat) (f : Nat → Int32) (v : Int32) : x_putI (x_putA S c f) c j v = x_putA S c (upd f j v) := by
  rw [pI_A, gA_s, pA_A]
theorem cpy0 (f g : Nat → Int32) (sp dp : Nat) : va_cpy f g sp dp 0 = g := by
  funext k
  unfold va_cpy
  rw [if_neg (by omega)]
theorem cpyS (f g : Nat → Int32) (sp dp i : Nat) : upd (va_cpy f g sp dp i) (dp + i) (f (sp + i)) = va_cpy f g sp dp (i + 1) := by
  funext k
  unfold upd va_cpy
  by_cases h : k = dp + i
  · rw [if_pos h, if_pos (by omega), h, show dp + i - dp = i by omega]
  · rw [if_neg h]
    by_cases h2 : dp ≤ k ∧ k < dp + i
    · rw [if_pos h2, if_pos (by omega)]
    · rw [if_neg h2, if_neg (by omega)]
theorem lp_st {B : Nat → xSt → Prop} (st : Nat → xSt) (n : Nat) (hs : ∀ i, i < n → B (i + 1) (st (i + 1)) → B i (st i)) (H : B n (st n)) : B 0 (st 0) := by
  have h : ∀ k i, i + k = n → B i (st i) := by
    intro k
    induction k with
    | zero => intro i hi; rw [show i = n by omega]; exact H
    | succ k ih => intro i hi; exact hs i (by omega) (ih (i + 1) (by omega))
  exact h n 0 (by omega)
theorem Row.congr {nb : Nat} {f g f' g' : Nat → Int32} (h : Row nb f g) (hb : nb ≤ 10) (hf : ∀ k, k < 23 → f' k = f k) (hg : ∀ k, k < 23 → g' k = g k) : Row nb f' g' := by
  obtain ⟨h1, h2, h3, h4, h5, h6⟩ := h
  refine ⟨fun b q => ?_, ?_, ?_, ?_, ?_, ?_⟩
  · rw [hf b (by omega), hf (10 + b) (by omega), hg b (by omega), hg (10 + b) (by omega)]; exact h1 b q
  · rw [hf 20 (by omega), hg 20 (by omega)]; exact h2
  · rw [hf 21 (by omega), hg 21 (by omega)]; exact h3
  · rw [hf 22 (by omega), hg 22 (by omega)]; exact h4
  · rw [hf 20 (by omega)]; exact h5
  · rw [hf 22 (by omega)]; exact h6
variable {hc hm : xH} {d e : Nat} {S M : xSt}
theorem m_writeRow {dn : Nat} (h0 : S.1 43 4 = nI dn) (h : dn ≤ 40) {K : xSt → Prop} (H : K (x_putA S 44 (va_cpy (S.1 42) (S.1 44) 0 (23 * dn) 23))) : M_Hi_writeRow hc d S K := by
  have e1 : S.1 43 4 * 23 = nI (23 * dn) := by rw [h0, show (23 : Int32) = nI 23 from rfl, pk_mul, Nat.mul_comm]
  have e2 : (S.1 43 4 * 23).toNatClampNeg = 23 * dn := by rw [e1]; exact nCl (by omega)
  refine e_Hi_writeRow ⟨⟨⟨by decide, by rw [e1]; exact nN0 (by omega), by decide⟩, by omega, by rw [e2]; omega⟩, ?_⟩
  rw [e2]; exact H
theorem m_readRow {dn : Nat} (h0 : S.1 43 4 = nI dn) (h : dn ≤ 40) {K : xSt → Prop} (H : K (x_putA S 42 (va_cpy (S.1 44) (S.1 42) (23 * dn) 0 23))) : M_Hi_readRow hc d S K := by
  have e1 : S.1 43 4 * 23 = nI (23 * dn) := by rw [h0, show (23 : Int32) = nI 23 from rfl, pk_mul, Nat.mul_comm]
  have e2 : (S.1 43 4 * 23).toNatClampNeg = 23 * dn := by rw [e1]; exact nCl (by omega)
  refine e_Hi_readRow ⟨⟨⟨by rw [e1]; exact nN0 (by omega), by decide, by decide⟩, by rw [e2]; omega, by omega⟩, ?_⟩
  rw [e2]; exact H
/-- the reference's exchange of a row with what is now -/
theorem m_exchange {a : Nat} (ha : a < 40) {K : xSt → Prop} (H : K (x_putA (x_putA M 35 (va_cpy (M.1 34) (M.1 35) 0 (24 * a) 23)) 34 (va_cpy (M.1 35) (M.1 34) (24 * a) 0 23))) : M_M_exchange hm e (nI (24 * a)) M K := by
  refine e_M_exchange ?_
  have := lp_st (B := fun i S' => B_M_exchange_2 hm e (nI (24 * a)) (nI i) S' K) (fun i => x_putA (x_putA M 35 (va_cpy (M.1 34) (M.1 35) 0 (24 * a) i)) 34 (va_cpy (M.1 35) (M.1 34) (24 * a) 0 i)) 23 (fun i hi ih => ?_) ?_
  · simp only [cpy0, pA_self] at this
    exact this
  · refine b_M_exchange_2 (br_f (nI_ge (b := 23) hi (by omega)) ?_)
    rw [nI_add]
    have v1 := vIn (j := 24 * a + i) (n := 960) (by omega) (by omega)
    have v2 := vIn (j := i) (n := 24) (by omega) (by omega)
    refine ⟨v1, v2, v1, v2, ?_⟩
    rw [nI_1, nCl (by omega), nCl (by omega)]
    refine ek_v (P := fun z => B_M_exchange_2 hm e (nI (24 * a)) (nI (i + 1)) z K) ?_ ih
    rw [gA_s, gA_n _ _ (by decide), gA_s]
    have e1 : va_cpy (M.1 35) (M.1 34) (24 * a) 0 i i = M.1 34 i := by unfold va_cpy; rw [if_neg (by omega)]
    have e2 : va_cpy (M.1 34) (M.1 35) 0 (24 * a) i (24 * a + i) = M.1 35 (24 * a + i) := by unfold va_cpy; rw [if_neg (by omega)]
    rw [e1, e2, ← cpyS (M.1 34) (M.1 35) 0 (24 * a) i, ← cpyS (M.1 35) (M.1 34) (24 * a) 0 i, Nat.zero_add]
    have e3 : ∀ f g v, x_putI (x_putA (x_putA M 35 f) 34 g) 35 (24 * a + i) v = x_putA (x_putA M 35 (upd f (24 * a + i) v)) 34 g := by
      intro f g v
      rw [pI_A, gA_n _ _ (by decide), gA_s]
      unfold x_putA
      congr 1
      funext c
      by_cases h : c = 35
      · subst h; rfl
      · simp only [h, if_false]
    rw [e3, pI_pA]
  · exact b_M_exchange_2 (br_t (by decide) H)
theorem sim_undo (hR : Rel S M) : OKi Rel (M_O_undo hc d S) (M_M_undo hm e M) := by
  have hR0 := hR
  obtain ⟨nm, nd, nb, nf, hd, st, hT, hM, hW, hN, ⟨dn, kn, h1, h2, e1, e2, e3, e4, r1, r2, r3⟩, hB, hG, hL, hF, hA⟩ := hR
  have hb : nb ≤ 10 := hT.2.2.1.2
  cases dn with
  | zero =>
    refine ⟨0, S, M, fun K H => e_O_undo (e_Hi_stepBack (br_f (by rw [e1]; decide) ⟨zb0, H⟩)), fun K H => e_M_undo (br_nt (by rw [e3]; rfl) H), hR0⟩
  | succ n =>
    have q1 : S.1 43 4 - 1 = nI n := by rw [e1, nI_pred]
    have q2 : M.1 0 69 - 1 = nI n := by rw [e3, nI_pred]
    have q3 : (24 : Int32) * (M.1 0 69 - 1) = nI (24 * n) := by rw [q2, show (24 : Int32) = nI 24 from rfl, pk_mul]
    refine OKi.mk (r := 1) (fun K H => e_O_undo (e_Hi_stepBack (br_t (by rw [e1]; exact nI_lt (a := 0) (by omega) (by omega)) (m_readRow (dn := n) q1 (by omega) ⟨zb1, H⟩)))) (fun K H => e_M_undo (br_nf (by rw [e3]; exact nI_ne0 (by omega) (by omega)) (ek_v (P := fun z => M_M_exchange hm e z _ _) q3 (m_exchange (by omega) H)))) ?_
    refine ⟨nm, nd, nb, nf, hd, st, hT, hM, hW, ?_, ?_, hB, hG, hL, hF, hA⟩
    · refine (r1 n (by omega)).congr hb (fun k hk => ?_) (fun k hk => ?_)
      · show va_cpy (S.1 44) (S.1 42) (23 * n) 0 23 k = _
        unfold va_cpy; rw [if_pos (by omega), Nat.sub_zero]
      · show va_cpy (M.1 35) (M.1 34) (24 * n) 0 23 k = _
        unfold va_cpy; rw [if_pos (by omega), Nat.sub_zero]
    · refine ⟨n, kn, by omega, h2, q1, e2, q2, ?_, fun r hr => ?_, fun r hr hr2 => ?_, fun k hk => ?_⟩
      · show M.1 0 70 + 1 = _
        rw [e4, nI_1]; congr 1; omega
      · refine (r1 r (by omega)).congr hb (fun k hk => rfl) (fun k hk => ?_)
        show va_cpy (M.1 34) (M.1 35) 0 (24 * n) 23 (24 * r + k) = _
        unfold va_cpy; rw [if_neg (by omega)]
      · by_cases hn : r = n
        · subst hn
          refine hN.congr hb (fun k hk => r3 k hk) (fun k hk => ?_)
          show va_cpy (M.1 34) (M.1 35) 0 (24 * r) 23 (24 * r + k) = _
          unfold va_cpy; rw [if_pos (by omega), show 0 + (24 * r + k - 24 * r) = k by omega]
        · refine (r2 r (by omega) hr2).congr hb (fun k hk => rfl) (fun k hk => ?_)
          show va_cpy (M.1 34) (M.1 35) 0 (24 * n) 23 (24 * r + k) = _
          unfold va_cpy; rw [if_neg (by omega)]
      · show _ = va_cpy (S.1 44) (S.1 42) (23 * n) 0 23 k
        unfold va_cpy; rw [if_pos (by omega), Nat.sub_zero]; rfl
theorem sim_redo (hR : Rel S M) : OKi Rel (M_O_redo hc d S) (M_M_redo hm e M) := by
  have hR0 := hR
  obtain ⟨nm, nd, nb, nf, hd, st, hT, hM, hW, hN, ⟨dn, kn, h1, h2, e1, e2, e3, e4, r1, r2, r3⟩, hB, hG, hL, hF, hA⟩ := hR
  have hb : nb ≤ 10 := hT.2.2.1.2
  by_cases hlt : dn < kn
  · have q1 : S.1 43 4 + 1 = nI (dn + 1) := by rw [e1, nI_1]
    have q3 : (24 : Int32) * M.1 0 69 = nI (24 * dn) := by rw [e3, show (24 : Int32) = nI 24 from rfl, pk_mul]
    refine OKi.mk (r := 1) (fun K H => e_O_redo (e_Hi_stepOn (br_t (by rw [e1, e2]; exact nI_lt hlt (by omega)) (m_readRow (dn := dn + 1) q1 (by omega) ⟨zb1, H⟩)))) (fun K H => e_M_redo (br_nf (by rw [e4]; exact nI_ne0 (by omega) (by omega)) (ek_v (P := fun z => M_M_exchange hm e z _ _) q3 (m_exchange (by omega) H)))) ?_
    refine ⟨nm, nd, nb, nf, hd, st, hT, hM, hW, ?_, ?_, hB, hG, hL, hF, hA⟩
    · refine (r2 dn (by omega) hlt).congr hb (fun k hk => ?_) (fun k hk => ?_)
      · show va_cpy (S.1 44) (S.1 42) (23 * (dn + 1)) 0 23 k = _
        unfold va_cpy; rw [if_pos (by omega), Nat.sub_zero]
      · show va_cpy (M.1 35) (M.1 34) (24 * dn) 0 23 k = _
        unfold va_cpy; rw [if_pos (by omega), Nat.sub_zero]
    · refine ⟨dn + 1, kn, by omega, h2, q1, e2, ?_, ?_, fun r hr => ?_, fun r hr hr2 => ?_, fun k hk => ?_⟩
      · show M.1 0 69 + 1 = _
        rw [e3, nI_1]
      · show M.1 0 70 - 1 = _
        rw [e4, show kn - dn = (kn - (dn + 1)) + 1 by omega, nI_pred]
      · by_cases hn : r = dn
        · subst hn
          refine hN.congr hb (fun k hk => r3 k hk) (fun k hk => ?_)
          show va_cpy (M.1 34) (M.1 35) 0 (24 * r) 23 (24 * r + k) = _
          unfold va_cpy; rw [if_pos (by omega), show 0 + (24 * r + k - 24 * r) = k by omega]
        · refine (r1 r (by omega)).congr hb (fun k hk => rfl) (fun k hk => ?_)
          show va_cpy (M.1 34) (M.1 35) 0 (24 * dn) 23 (24 * r + k) = _
          unfold va_cpy; rw [if_neg (by omega)]
      · refine (r2 r (by omega) hr2).congr hb (fun k hk => rfl) (fun k hk => ?_)
        show va_cpy (M.1 34) (M.1 35) 0 (24 * dn) 23 (24 * r + k) = _
        unfold va_cpy; rw [if_neg (by omega)]
      · show _ = va_cpy (S.1 44) (S.1 42) (23 * (dn + 1)) 0 23 k
        unfold va_cpy; rw [if_pos (by omega), Nat.sub_zero]; rfl
  · refine ⟨0, S, M, fun K H => e_O_redo (e_Hi_stepOn (br_f (by rw [e1, e2, nLt (by omega) (by omega)]; exact hlt) ⟨zb0, H⟩)), fun K H => e_M_redo (br_nt (by rw [e4, show kn - dn = 0 by omega]; rfl) H), hR0⟩

/-- the reference copies a row of what is now into a row of another array -/
theorem bits3 : ∀ fl, fl < 8 → ∀ x, x < 3 → nI fl ||| ((1 : Int32) <<< (nI x &&& 31)) = nI (fl ||| 2 ^ x) ∧ fl ||| 2 ^ x < 8 ∧ ((nI fl &&& ((1 : Int32) <<< (nI x &&& 31)) = 0) ↔ fl.testBit x = false) ∧ ∀ y, y < 3 → (fl ||| 2 ^ x).testBit y = (fl.testBit y || (x == y)) := by decide +kernel
theorem box_cases (x : Int32) : x < 0 ∨ (¬ x < 0 ∧ 3 ≤ x) ∨ ∃ j, j < 3 ∧ x = nI j := by
  rcases nIx x (n := 3) (by omega) with h | h | ⟨j, h1, h2⟩
  · exact Or.inl h
  · by_cases c : x < 0
    · exact Or.inl c
    · exact Or.inr (Or.inl ⟨c, h⟩)
  · exact Or.inr (Or.inr ⟨j, h1, h2⟩)
theorem m_M_image_lp {x : Nat} (hx : x < 3) {K : Int32 → xSt → Prop} (H : K (M.1 34 20) (x_putA M 51 (va_cpy (M.1 34) (M.1 51) 0 (24 * x) 23))) : B_M_image_18 hm e (nI x) 0 M K := by
  have := lp_st (B := fun i S' => B_M_image_18 hm e (nI x) (nI i) S' K) (fun i => x_putA M 51 (va_cpy (M.1 34) (M.1 51) 0 (24 * x) i)) 23 (fun i hi ih => ?_) ?_
  · simp only [cpy0, pA_self] at this
    exact this
  · refine b_M_image_18 (br_f (nI_ge (b := 23) hi (by omega)) ?_)
    rw [show (24 : Int32) * nI x + nI i = nI (24 * x + i) by rw [show (24 : Int32) = nI 24 from rfl, pk_mul, nI_add]]
    refine ⟨vIn (by omega) (by omega), vIn (by omega) (by omega), ?_⟩
    rw [nI_1, nCl (by omega), nCl (by omega), gA_n _ _ (by decide), pI_pA]
    have q := cpyS (M.1 34) (M.1 51) 0 (24 * x) i
    rw [Nat.zero_add] at q
    rw [q]; exact ih
  · exact b_M_image_18 (br_t (by decide) H)
theorem m_M_back_lp {x : Nat} (hx : x < 3) {K : Int32 → xSt → Prop} (H : K (va_cpy (M.1 51) (M.1 34) (24 * x) 0 23 20) (x_putI (x_putI (x_putA M 34 (va_cpy (M.1 51) (M.1 34) (24 * x) 0 23)) 0 69 0) 0 70 0)) : B_M_back_20 hm e (nI x) 0 M K := by
  have := lp_st (B := fun i S' => B_M_back_20 hm e (nI x) (nI i) S' K) (fun i => x_putA M 34 (va_cpy (M.1 51) (M.1 34) (24 * x) 0 i)) 23 (fun i hi ih => ?_) ?_
  · simp only [cpy0, pA_self] at this
    exact this
  · refine b_M_back_20 (br_f (nI_ge (b := 23) hi (by omega)) ?_)
    rw [show (24 : Int32) * nI x + nI i = nI (24 * x + i) by rw [show (24 : Int32) = nI 24 from rfl, pk_mul, nI_add]]
    refine ⟨vIn (by omega) (by omega), vIn (by omega) (by omega), ?_⟩
    rw [nI_1, nCl (by omega), nCl (by omega), gA_n _ _ (by decide), pI_pA]
    have q := cpyS (M.1 51) (M.1 34) (24 * x) 0 i
    rw [Nat.zero_add] at q
    rw [q]; exact ih
  · exact b_M_back_20 (br_t (by decide) H)
theorem isBox_n {x : Int32} {K : Int32 → xSt → Prop} (h : x < 0 ∨ (¬ x < 0 ∧ 3 ≤ x)) (H : K 0 M) : M_M_isBox hm e x M K := by
  refine m_M_isBox ?_
  rw [bi_neg]
  · exact H
  · intro z
    rcases h with h | h
    · exact z.1 h
    · exact absurd h.2 (by simpa using z.2)
theorem isBox_y {j : Nat} {K : Int32 → xSt → Prop} (h : j < 3) (H : K 1 M) : M_M_isBox hm e (nI j) M K := by
  refine m_M_isBox ?_
  rw [bi_pos]
  · exact H
  · refine ⟨nN0 (by omega), ?_⟩
    first | exact nI_lt (b := 3) h (by omega) | exact nI_ge (b := 3) h (by omega)
theorem sim_image (hR : Rel S M) (x1 : Int32) : OKi Rel (M_O_image hc d x1 S) (M_M_image hm e x1 M) := by
  have hR0 := hR
  obtain ⟨nm, nd, nb, nf, hd, st, hT, hM, hW, hN, hH, ⟨fl, h1, e1, hx⟩, hG, hL, hF, hA⟩ := hR
  have hb : nb ≤ 10 := hT.2.2.1.2
  rcases box_cases x1 with c | c | ⟨x, hx3, rfl⟩
  · exact ⟨_, S, M, fun K H => e_O_image (br_t c H), fun K H => e_M_image (isBox_n (Or.inl c) (br_nt rfl H)), hR0⟩
  · exact ⟨_, S, M, fun K H => e_O_image (br_f c.1 (br_f (fun z => by rw [Int32.lt_iff_toInt_lt] at z; have := c.2; rw [Int32.le_iff_toInt_le] at this; omega) H)), fun K H => e_M_image (isBox_n (Or.inr c) (br_nt rfl H)), hR0⟩
  · have e2 : nI x * (23 : Int32) = nI (23 * x) := by rw [show (23 : Int32) = nI 23 from rfl, pk_mul, Nat.mul_comm]
    have e3 : (nI x * (23 : Int32)).toNatClampNeg = 23 * x := by rw [e2]; exact nCl (by omega)
    have e4 : vp_nar .boolean 1 = 1 := by decide +kernel
    obtain ⟨b1, b2, b3, b4⟩ := bits3 fl h1 x hx3
    have hday : M.1 34 20 = S.1 42 20 := hN.2.1
    refine OKi.mk (r := S.1 42 20) (S' := x_putI (x_putA S 45 (va_cpy (S.1 42) (S.1 45) 0 (23 * x) 23)) 43 3 (nI (fl ||| 2 ^ x))) (M' := x_putA (x_putI M 50 x 1) 51 (va_cpy (M.1 34) (M.1 51) 0 (24 * x) 23)) (fun K H => e_O_image (br_f (nN0 (by omega)) (br_t (nI_lt (b := 3) hx3 (by omega)) (e_Hi_fillBox ⟨⟨⟨by decide, by rw [e2]; exact nN0 (by omega), by decide⟩, by omega, by rw [e3]; omega⟩, m_Co_today (by rw [e3, e1, b1]; exact H)⟩)))) (fun K H => e_M_image (isBox_y hx3 (br_nf (by decide) ⟨vIn (by omega) (by omega), m_M_image_lp hx3 (by rw [nCl (by omega), e4]; rw [← hday] at H; exact H)⟩))) ?_
    refine ⟨nm, nd, nb, nf, hd, st, hT, hM, hW, hN, hH, ⟨fl ||| 2 ^ x, b2, rfl, fun y hy => ?_⟩, hG, hL, hF, hA⟩
    rw [b4 y hy]
    by_cases hxy : x = y
    · subst hxy
      refine ⟨?_, fun _ => hN.congr hb (fun k hk => ?_) (fun k hk => ?_)⟩
      · show upd (M.1 50) x 1 x = _
        rw [up_s]; simp
      · show va_cpy (S.1 42) (S.1 45) 0 (23 * x) 23 (23 * x + k) = _
        unfold va_cpy; rw [if_pos (by omega), show 0 + (23 * x + k - 23 * x) = k by omega]
      · show va_cpy (M.1 34) (M.1 51) 0 (24 * x) 23 (24 * x + k) = _
        unfold va_cpy; rw [if_pos (by omega), show 0 + (24 * x + k - 24 * x) = k by omega]
    · have hne : (x == y) = false := by simpa using hxy
      rw [hne, Bool.or_false]
      refine ⟨?_, fun q => ((hx y hy).2 q).congr hb (fun k hk => ?_) (fun k hk => ?_)⟩
      · show upd (M.1 50) x 1 y = _
        rw [up_n _ _ (fun z => hxy z.symm)]; exact (hx y hy).1
      · show va_cpy (S.1 42) (S.1 45) 0 (23 * x) 23 (23 * y + k) = _
        unfold va_cpy; rw [if_neg (by omega)]
      · show va_cpy (M.1 34) (M.1 51) 0 (24 * x) 23 (24 * y + k) = _
        unfold va_cpy; rw [if_neg (by omega)]
/-- the class forgets its acts: row 0 is what is now -/
theorem m_forgetActs {K : xSt → Prop} (H : K (x_putA (x_putI (x_putI S 43 4 0) 43 5 0) 44 (va_cpy (S.1 42) (S.1 44) 0 0 23))) : M_Hi_forgetActs hc d S K :=
  e_Hi_forgetActs (m_writeRow (dn := 0) rfl (by omega) H)
theorem sim_back (hR : Rel S M) (x1 : Int32) : OKi Rel (M_O_back hc d x1 S) (M_M_back hm e x1 M) := by
  have hR0 := hR
  obtain ⟨nm, nd, nb, nf, hd, st, hT, hM, hW, hN, hH, ⟨fl, h1, e1, hx⟩, hG, hL, hF, hA⟩ := hR
  have hb : nb ≤ 10 := hT.2.2.1.2
  rcases box_cases x1 with c | c | ⟨x, hx3, rfl⟩
  · exact ⟨_, S, M, fun K H => e_O_back (br_t c H), fun K H => e_M_back (isBox_n (Or.inl c) (br_t rfl H)), hR0⟩
  · exact ⟨_, S, M, fun K H => e_O_back (br_f c.1 (br_t c.2 H)), fun K H => e_M_back (isBox_n (Or.inr c) (br_t rfl H)), hR0⟩
  · have e2 : nI x * (23 : Int32) = nI (23 * x) := by rw [show (23 : Int32) = nI 23 from rfl, pk_mul, Nat.mul_comm]
    have e3 : (nI x * (23 : Int32)).toNatClampNeg = 23 * x := by rw [e2]; exact nCl (by omega)
    obtain ⟨b1, b2, b3, b4⟩ := bits3 fl h1 x hx3
    obtain ⟨g1, g2⟩ := hx x hx3
    have n1 : ¬ nI x < 0 := nN0 (by omega)
    have n2 : ¬ (3 : Int32) ≤ nI x := nI_ge (b := 3) hx3 (by omega)
    have v3 : vp_in (nI x) 3 := vIn hx3 (by omega)
    by_cases hf : fl.testBit x = true
    · have c1 : ¬ S.1 43 3 &&& ((1 : Int32) <<< (nI x &&& 31)) = 0 := by rw [e1, b3, hf]; decide
      rw [hf, if_pos rfl] at g1
      have hrow := g2 hf
      have cl : ∀ k, k < 23 → va_cpy (S.1 45) (S.1 42) (23 * x) 0 23 k = S.1 45 (23 * x + k) := fun k hk => by unfold va_cpy; rw [if_pos (by omega), Nat.sub_zero]
      have ml : ∀ k, k < 23 → va_cpy (M.1 51) (M.1 34) (24 * x) 0 23 k = M.1 51 (24 * x + k) := fun k hk => by unfold va_cpy; rw [if_pos (by omega), Nat.sub_zero]
      have hday : va_cpy (M.1 51) (M.1 34) (24 * x) 0 23 20 = va_cpy (S.1 45) (S.1 42) (23 * x) 0 23 20 := by
        rw [cl 20 (by omega), ml 20 (by omega)]; exact hrow.2.1
      refine OKi.mk (r := va_cpy (S.1 45) (S.1 42) (23 * x) 0 23 20) (fun K H => e_O_back (br_f n1 (br_f n2 (e_Hi_openBox (br_nf c1 ⟨⟨⟨by rw [e2]; exact nN0 (by omega), by decide, by decide⟩, by rw [e3]; omega, by omega⟩, m_forgetActs (br_nf (by decide) (m_Co_today (ek_v (P := fun z => K (va_cpy (S.1 45) (S.1 42) z 0 23 20) (x_putA (x_putI (x_putI (x_putA S 42 (va_cpy (S.1 45) (S.1 42) z 0 23)) 43 4 0) 43 5 0) 44 (va_cpy (va_cpy (S.1 45) (S.1 42) z 0 23) (S.1 44) 0 0 23))) e3 H)))⟩))))) (fun K H => e_M_back (isBox_y hx3 (br_f (by decide) ⟨v3, br_nf (by rw [nCl (by omega), g1]; decide) (m_M_back_lp hx3 (by rw [hday]; exact H))⟩))) ?_
      refine ⟨nm, nd, nb, nf, hd, st, hT, hM, hW, ?_, ⟨0, 0, by omega, by omega, rfl, rfl, rfl, rfl, fun r hr => absurd hr (by omega), fun r _ hr => absurd hr (by omega), fun k hk => ?_⟩, ⟨fl, h1, e1, hx⟩, hG, hL, hF, hA⟩
      · exact hrow.congr hb cl ml
      · show va_cpy (va_cpy (S.1 45) (S.1 42) (23 * x) 0 23) (S.1 44) 0 0 23 (23 * 0 + k) = va_cpy (S.1 45) (S.1 42) (23 * x) 0 23 k
        generalize va_cpy (S.1 45) (S.1 42) (23 * x) 0 23 = f
        unfold va_cpy; rw [if_pos (by omega), show 0 + (23 * 0 + k - 0) = k by omega]
    · have hf : fl.testBit x = false := by simpa using hf
      have c1 : S.1 43 3 &&& ((1 : Int32) <<< (nI x &&& 31)) = 0 := by rw [e1, b3, hf]
      rw [hf, if_neg (by decide)] at g1
      exact ⟨_, S, M, fun K H => e_O_back (br_f n1 (br_f n2 (e_Hi_openBox (br_nt c1 (br_nt rfl H))))), fun K H => e_M_back (isBox_y hx3 (br_f (by decide) ⟨v3, br_nt (by rw [nCl (by omega), g1]) H⟩)), hR0⟩
end
