section
variable {hc hm : xH} {d e : Nat} {S M : xSt}
theorem bmodI {z : Int} (h1 : -2147483648 ≤ z) (h2 : z < 2147483648) : z.bmod 4294967296 = z := by
  rw [Int.bmod_eq_of_le] <;> omega
theorem addI {x y : Int32} (h1 : -2147483648 ≤ x.toInt + y.toInt) (h2 : x.toInt + y.toInt < 2147483648) : (x + y).toInt = x.toInt + y.toInt := by
  rw [Int32.toInt_add]; exact bmodI h1 h2
theorem subI {x y : Int32} (h1 : -2147483648 ≤ x.toInt - y.toInt) (h2 : x.toInt - y.toInt < 2147483648) : (x - y).toInt = x.toInt - y.toInt := by
  rw [Int32.toInt_sub]; exact bmodI h1 h2
abbrev uSh (i k : Int32) : Int32 := (i.toUInt32 >>> (k.toUInt32 &&& Int32.toUInt32 31)).toInt32
abbrev bc1 (i : Int32) : Int32 := i - (uSh i 1 &&& 1431655765)
abbrev bc2 (i : Int32) : Int32 := (i &&& 858993459) + (uSh i 2 &&& 858993459)
abbrev bc3 (i : Int32) : Int32 := (i + uSh i 4) &&& 252645135
abbrev bc4 (i : Int32) : Int32 := i + uSh i 8
abbrev bc5 (i : Int32) : Int32 := i + uSh i 16
def bcE (i : Int32) : Int32 := bc5 (bc4 (bc3 (bc2 (bc1 i)))) &&& 63
theorem bcT : ∀ k, k < 1024 → bcE (nI k) = nI (pcI (nI k)) := by decide +kernel
theorem m_bitC {x : Int32} {k : Nat} (hx : x = nI k) (hk : k < 1024) {K : Int32 → xSt → Prop} (H : K (nI (pcI x)) S) : M_Jint_bitCount_0f7a4 hc d x S K := by
  subst hx
  rw [← bcT k hk] at H
  exact m_Jint_bitCount_0f7a4 H
/-- bits below 10 only: a number below 1024 -/
theorem bits10 {x : Int32} (h : ∀ i, i < 32 → 10 ≤ i → bt x i = false) : ∃ k, k < 1024 ∧ x = nI k := by
  obtain ⟨n, hn, rfl⟩ := wb_of32 x
  refine ⟨n, ?_, rfl⟩
  rcases Nat.lt_or_ge n 1024 with q | q
  · exact q
  · exfalso
    obtain ⟨i, hi, hb⟩ := Nat.exists_ge_and_testBit_of_ge_two_pow (n := 10) q
    have h32 : i < 32 := by
      rcases Nat.lt_or_ge i 32 with y | y
      · exact y
      · have : n.testBit i = false := Nat.testBit_lt_two_pow (Nat.lt_of_lt_of_le hn (Nat.pow_le_pow_right (by omega) y))
        rw [this] at hb; exact absurd hb (by simp)
    have := h i h32 hi
    have e : bt (nI n) i = n.testBit i := by
      show (BitVec.ofNat 32 n).getLsbD i = _
      rw [BitVec.getLsbD_ofNat]; simp [h32]
    rw [e, hb] at this
    exact absurd this (by simp)
theorem fb_iff {S0 : xSt} {nb : Nat} {x : Int32} {D hd dd t : Nat} : fbS S0 nb x D hd dd t = true ↔ ∃ b, b < nb ∧ pB S0 x (oDay D hd t) dd b ∧ S0.1 10 b = 0 := by
  unfold fbS
  induction nb with
  | zero => exact ⟨fun h => absurd h (by simp [fo]), fun ⟨b, h, _⟩ => absurd h (Nat.not_lt_zero _)⟩
  | succ n ih =>
    show (fo _ n false || decide _) = true ↔ _
    rw [Bool.or_eq_true, ih, decide_eq_true_iff]
    constructor
    · rintro (⟨b, h1, h2⟩ | h)
      · exact ⟨b, by omega, h2⟩
      · exact ⟨n, by omega, h⟩
    · rintro ⟨b, h1, h2⟩
      by_cases c : b = n
      · rw [c] at h2; exact Or.inr h2
      · exact Or.inl ⟨b, by omega, h2⟩
abbrev onM (S : xSt) (x : Int32) (b : Nat) : Prop := S.1 42 b = 0 ∧ S.1 7 b = x
/-- what the class's orders are reckoned from -/
def CO (S0 : xSt) (nd nb : Nat) (hr : Nat → Nat) (x : Int32) (S : xSt) : Prop := (∀ c, c < 46 ∨ 51 < c → S.1 c = S0.1 c) ∧ S.1 46 3 = nI (flT (onM S0 x) nb).1 ∧ (∀ j, j < (flT (onM S0 x) nb).1 → S.1 47 j = nI ((flT (onM S0 x) nb).2 j)) ∧ ∀ A, A < 2 ^ nd → S.1 48 A = nI (hSe hr A nd)
theorem or_add : ∀ k, k < 6 → ∀ A, A < 64 → A < 2 ^ k → A ||| 2 ^ k = A + 2 ^ k := by decide +kernel
theorem m_lookAt {S0 : xSt} {nd nb : Nat} {hr : Nat → Nat} {x : Int32} (hnd : S0.1 2 4 = nI nd) (hnd6 : nd ≤ 6) (hnb : S0.1 2 6 = nI nb) (hnb10 : nb ≤ 10) (hh : ∀ d, d < nd → S0.1 6 d = nI (hr d)) (hf : ∀ c, c < 46 ∨ 51 < c → S.1 c = S0.1 c) {K : xSt → Prop} (H : ∀ S', CO S0 nd nb hr x S' → K S') : M_Or_lookAt hc d x S K := by
  refine e_Or_lookAt ?_
  refine lp_inv (B := fun i (q : xSt) => B_Or_lookAt_7 hc d x (nI i) q K) (fun i q => (∀ c, c < 46 ∨ 51 < c → q.1 c = S0.1 c) ∧ q.1 46 3 = nI (flT (onM S0 x) i).1 ∧ (∀ j, j < (flT (onM S0 x) i).1 → q.1 47 j = nI ((flT (onM S0 x) i).2 j))) nb (fun i q hi hI ih => ?_) (fun q hI => ?_) _ ⟨fun c hc => by rw [gI_ne _ _ _ (by omega)]; exact hf c hc, rfl, fun j hj => absurd hj (Nat.not_lt_zero _)⟩
  · obtain ⟨q1, q2, q3⟩ := hI
    have ci : (nI i).toNatClampNeg = i := nCl (by omega)
    have fl := flT_le (onM S0 x) i
    have nx : ∀ q' : xSt, (∀ c, c < 46 ∨ 51 < c → q'.1 c = S0.1 c) → q'.1 46 3 = nI (flT (onM S0 x) (i + 1)).1 → (∀ j, j < (flT (onM S0 x) (i + 1)).1 → q'.1 47 j = nI ((flT (onM S0 x) (i + 1)).2 j)) → B_Or_lookAt_59 hc d x (nI i) q' K := fun q' h1 h2 h3 => b_Or_lookAt_59 (by rw [nI_1]; exact ih q' ⟨h1, h2, h3⟩)
    refine b_Or_lookAt_7 (br_f (by rw [q1 2 (by omega), hnb]; exact nI_ge hi (by omega)) (m_Co_isOnMan (vIn (by omega) (by omega)) (fun _ => vIn (by omega) (by omega)) ?_))
    rw [ci, q1 42 (by omega), q1 7 (by omega)]
    by_cases c : onM S0 x i
    · have ef : flT (onM S0 x) (i + 1) = ((flT (onM S0 x) i).1 + 1, fun j => if j = (flT (onM S0 x) i).1 then i else (flT (onM S0 x) i).2 j) := if_pos c
      rw [bi_pos c]
      refine br_f (by decide) (br_f (by rw [q2]; exact nI_ge (b := 10) (by omega) (by omega)) ⟨by rw [q2]; exact vIn (by omega) (by omega), nx _ (fun c hc => by rw [gI_ne _ _ _ (by omega), gI_ne _ _ _ (by omega)]; exact q1 c hc) ?_ (fun j hj => ?_)⟩)
      · rw [ef]
        show q.1 46 3 + 1 = _
        rw [q2, nI_1]
      · rw [ef] at hj ⊢
        have hj : j < (flT (onM S0 x) i).1 + 1 := hj
        show upd (q.1 47) (q.1 46 3).toNatClampNeg (nI i) j = nI (if j = (flT (onM S0 x) i).1 then i else (flT (onM S0 x) i).2 j)
        rw [q2, nCl (by omega)]
        by_cases y : j = (flT (onM S0 x) i).1
        · rw [y, up_s, if_pos rfl]
        · rw [up_n _ _ y, if_neg y]; exact q3 j (by omega)
    · have ef : flT (onM S0 x) (i + 1) = flT (onM S0 x) i := if_neg c
      rw [bi_neg c]
      exact br_t rfl (nx q q1 (by rw [ef]; exact q2) (by rw [ef]; exact q3))
  · obtain ⟨q1, q2, q3⟩ := hI
    refine b_Or_lookAt_7 (br_t (by rw [q1 2 (by omega), hnb]; exact nI_le (Nat.le_refl _) (by omega)) ?_)
    have z0 : hSe hr 0 nd = 0 := by
      have : ∀ k, hSe hr 0 k = 0 := by
        intro k
        induction k with
        | zero => rfl
        | succ k ih => show hSe hr 0 k + _ = 0; rw [ih, Nat.zero_testBit, if_neg (by simp)]
      exact this nd
    refine lp_inv (B := fun k (q : xSt) => B_Or_lookAt_74 hc d (nI k) q K) (fun k q' => (∀ c, c ≠ 48 → q'.1 c = q.1 c) ∧ ∀ A, A < 2 ^ k → q'.1 48 A = nI (hSe hr A nd)) nd (fun k q' hk hI ih => ?_) (fun q' hI => ?_) _ ⟨fun c hc => gI_ne _ _ _ hc, fun A hA => ?_⟩
    · obtain ⟨r1, r2⟩ := hI
      have pk : 2 ^ k ≤ 32 := Nat.le_trans (Nat.pow_le_pow_right (by omega) (show k ≤ 5 by omega)) (by decide)
      refine b_Or_lookAt_74 (br_f (by rw [r1 2 (by decide), q1 2 (by omega), hnd]; exact nI_ge hk (by omega)) ?_)
      refine lp_inv (B := fun s (q : xSt) => B_Or_lookAt_87 hc d (nI k) (nI s) q K) (fun s q'' => (∀ c, c ≠ 48 → q''.1 c = q.1 c) ∧ (∀ A, A < 2 ^ k → q''.1 48 A = nI (hSe hr A nd)) ∧ ∀ A, A < s → q''.1 48 (A + 2 ^ k) = nI (hSe hr (A + 2 ^ k) nd)) (2 ^ k) (fun s q'' hs hI2 ih2 => ?_) (fun q'' hI2 => ?_) q' ⟨r1, r2, fun A hA => absurd hA (Nat.not_lt_zero _)⟩
      · obtain ⟨t1, t2, t3⟩ := hI2
        have es : nI s ||| oneAt (nI k) = nI (s + 2 ^ k) := by rw [set_or s (by omega) k (by omega), or_add k (by omega) s (by omega) hs]
        refine b_Or_lookAt_87 (br_f (by rw [set_1 k (by omega)]; exact nI_ge hs (by omega)) ⟨vIn (by omega) (by omega), vIn (by omega) (by omega), ?_, ?_⟩)
        · show vp_in (nI s ||| oneAt (nI k)) 64
          rw [es]; exact vIn (by omega) (by omega)
        · show B_Or_lookAt_87 hc d (nI k) (nI s + 1) (x_putI q'' 48 (nI s ||| oneAt (nI k)).toNatClampNeg (q''.1 48 (nI s).toNatClampNeg + q''.1 6 (nI k).toNatClampNeg)) K
          rw [es, nCl (by omega), nCl (by omega), nCl (by omega), nI_1, t2 s hs, t1 6 (by decide), q1 6 (by omega), hh k hk, nI_add]
          have hv : hSe hr s nd + hr k = hSe hr (s + 2 ^ k) nd := by rw [← or_add k (by omega) s (by omega) hs, hSe_or hr (Nat.testBit_lt_two_pow hs), if_pos hk]
          rw [hv]
          refine ih2 _ ⟨fun c hc => by rw [gI_ne _ _ _ hc]; exact t1 c hc, fun A hA => ?_, fun A hA => ?_⟩
          · rw [gI_same, up_n _ _ (by omega)]; exact t2 A hA
          · rw [gI_same]
            by_cases y : A = s
            · rw [y, up_s]
            · rw [up_n _ _ (by omega)]; exact t3 A (by omega)
      · obtain ⟨t1, t2, t3⟩ := hI2
        refine b_Or_lookAt_87 (br_t (by rw [set_1 k (by omega)]; exact nI_le (Nat.le_refl _) (by omega)) ?_)
        rw [nI_1]
        refine ih q'' ⟨t1, fun A hA => ?_⟩
        rw [Nat.pow_succ] at hA
        by_cases y : A < 2 ^ k
        · exact t2 A y
        · have := t3 (A - 2 ^ k) (by omega)
          rw [show A - 2 ^ k + 2 ^ k = A by omega] at this
          exact this
    · obtain ⟨r1, r2⟩ := hI
      refine b_Or_lookAt_74 (br_t (by rw [r1 2 (by decide), q1 2 (by omega), hnd]; exact nI_le (Nat.le_refl _) (by omega)) (H q' ⟨fun c hc => ?_, ?_, ?_, r2⟩))
      · rw [r1 c (by omega)]; exact q1 c hc
      · rw [r1 46 (by decide)]; exact q2
      · rw [r1 47 (by decide)]; exact q3
    · have : A = 0 := by have : A < 2 ^ 0 := hA; omega
      subst this
      rw [gI_same, up_s, z0]; rfl
end
