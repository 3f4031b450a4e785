section
variable {hc hm : xH} {d e : Nat} {S M : xSt}
-- the greatest common divisor
theorem m_gcdC : ∀ k a b i, a < 2 ^ 63 → b < 2 ^ 63 → b < 2 ^ k → i + 2 * k ≤ 99 → ∀ {K : Int64 → xSt → Prop}, K (lN (Nat.gcd b a)) S → B_Th_commonDivisor_3 hc d (lN a) (lN b) (nI i) S K := by
  intro k
  induction k with
  | zero =>
    intro a b i ha hb hk hi K H
    have : b = 0 := by omega
    subst this
    rw [Nat.gcd_zero_left] at H
    exact b_Th_commonDivisor_3 (br_f (nI_ge (b := 100) (by omega) (by omega)) (br_t rfl H))
  | succ k ih =>
    intro a b i ha hb hk hi K H
    refine b_Th_commonDivisor_3 (br_f (nI_ge (b := 100) (by omega) (by omega)) ?_)
    by_cases z : b = 0
    · subst z
      rw [Nat.gcd_zero_left] at H
      exact br_t rfl H
    · have z' : ¬ lN b = 0 := fun y => z ((pk_lEQ (b := 0) hb (by omega)).mp y)
      refine br_f z' ⟨z', ?_⟩
      rw [pk_lRem ha (by omega) hb, nI_1]
      have hr : a % b < b := Nat.mod_lt _ (by omega)
      refine b_Th_commonDivisor_3 (br_f (nI_ge (b := 100) (by omega) (by omega)) ?_)
      rw [Nat.gcd_rec] at H
      by_cases y : a % b = 0
      · rw [y] at H ⊢
        rw [Nat.gcd_zero_left] at H
        exact br_t rfl H
      · have y' : ¬ lN (a % b) = 0 := fun w => y ((pk_lEQ (b := 0) (by omega) (by omega)).mp w)
        refine br_f y' ⟨y', ?_⟩
        rw [pk_lRem hb (by omega) (by omega), nI_1]
        rw [Nat.gcd_rec] at H
        have h1 : b % (a % b) < a % b := Nat.mod_lt _ (by omega)
        have h2 : b % (a % b) ≤ b - a % b := by
          have := Nat.div_add_mod b (a % b)
          have q : 1 ≤ b / (a % b) := Nat.div_pos (by omega) (by omega)
          have := Nat.mul_le_mul_left (a % b) q
          omega
        refine ih (a % b) (b % (a % b)) (i + 1 + 1) (by omega) (by omega) ?_ (by omega) H
        have : 2 ^ (k + 1) = 2 * 2 ^ k := by rw [Nat.pow_succ]; omega
        omega
theorem m_gcdM : ∀ b a, a < 2 ^ 63 → b < 2 ^ 63 → ∀ {K : Int64 → xSt → Prop}, K (lN (Nat.gcd b a)) M → B_M_common_6 hm e (lN a) (lN b) M K := by
  intro b
  induction b using Nat.strongRecOn with
  | ind b ih =>
    intro a ha hb K H
    by_cases z : b = 0
    · subst z
      rw [Nat.gcd_zero_left] at H
      exact b_M_common_6 (br_t (by decide) H)
    · have z' : ¬ lN b = 0 := fun y => z ((pk_lEQ (b := 0) hb (by omega)).mp y)
      have z2 : ¬ lN b ≤ 0 := fun y => z (by have := (pk_lLE (b := 0) hb (by omega)).mp y; omega)
      refine b_M_common_6 (br_f z2 ⟨z', ?_⟩)
      rw [pk_lRem ha (by omega) hb]
      rw [Nat.gcd_rec] at H
      exact ih (a % b) (Nat.mod_lt _ (by omega)) b hb (by have := Nat.mod_lt a (show 0 < b by omega); omega) H
theorem tIt_eq1 {S1 : xSt} (h : eq1 S S1) {n b : Nat} {step arg w : Nat → Int32} (i : Nat) : tIt S1 n step arg b w i = tIt S n step arg b w i := by
  induction i with
  | zero => show S1.1 42 _ = _; rw [h 42 (by decide)]; rfl
  | succ i ih =>
    show tIt S1 n step arg b w i - clmp (tIt S1 n step arg b w i) (wAmt n step arg (tIt S1 n step arg b w i) (hol S1 b) (w i) (S1.1 42 20 + nI i)) = _
    rw [ih, h.hol, h 42 (by decide)]; rfl
abbrev wB (s i : Nat) : Int32 := (nI s >>> (nI i &&& 31)) &&& 1
theorem wB_l : ∀ s, s < 64 → ∀ i, i < 6 → (((nI s).toInt64 >>> ((nI i).toInt64 &&& 63)) &&& (1 : Int64)).toInt32 = wB s i := by decide +kernel
theorem sh_1 : ∀ N, N < 7 → (1 : Int32) <<< (nI N &&& 31) = nI (2 ^ N) := by decide +kernel
def wayN (st s N : Nat) : Nat := fo (fun i a => a * (if wB s i = 1 then st else 100 - st)) N 1
theorem wayN_le {st s : Nat} (h : st ≤ 100) : ∀ N, wayN st s N ≤ 100 ^ N := by
  intro N
  induction N with
  | zero => exact Nat.le_refl _
  | succ N ih =>
    show wayN st s N * (if wB s N = 1 then st else 100 - st) ≤ _
    rw [Nat.pow_succ]
    refine Nat.mul_le_mul ih ?_
    split <;> omega
theorem pw6 {N : Nat} (h : N ≤ 6) : 100 ^ N ≤ 1000000000000 ∧ 2 ^ N ≤ 64 ∧ 1 ≤ 100 ^ N := by
  have h1 : 100 ^ N ≤ 100 ^ 6 := Nat.pow_le_pow_right (by omega) h
  have h2 : 2 ^ N ≤ 2 ^ 6 := Nat.pow_le_pow_right (by omega) h
  exact ⟨h1, h2, Nat.pow_pos (by omega)⟩
def upN (f : Nat → Int32) (st N : Nat) (k : Nat) : Nat := fo (fun s a => if f s = 0 then a else a + wayN st s N) k 0
theorem upN_le {f : Nat → Int32} {st N : Nat} (h : st ≤ 100) : ∀ k, upN f st N k ≤ k * 100 ^ N := by
  intro k
  induction k with
  | zero => exact Nat.zero_le _
  | succ k ih =>
    show (if f k = 0 then upN f st N k else upN f st N k + wayN st k N) ≤ _
    have := wayN_le (st := st) (s := k) h N
    rw [Nat.succ_mul]
    generalize k * 100 ^ N = A at ih ⊢
    generalize 100 ^ N = B at this ⊢
    split <;> omega
theorem m_waysOf {st s N : Nat} (hs : S.1 2 18 = nI st) (h100 : st ≤ 100) (hN : N ≤ 6) {K : Int64 → xSt → Prop} (H : K (lN (wayN st s N)) S) : M_Th_waysOf hc d (nI s) (nI N) S K := by
  refine e_Th_waysOf ?_
  refine lp_up (B := fun i (a : Nat) => B_Th_waysOf_5 hc d (nI s) (nI N) (lN a) (nI i) S K) (fun i a => a * (if wB s i = 1 then st else 100 - st)) N (fun i a hi ih => ?_) 1 ?_
  · refine b_Th_waysOf_5 (br_f (nI_ge hi (by omega)) ?_)
    by_cases c : wB s i = 1
    · refine br_nt c (b_Th_waysOf_44 ?_)
      rw [hs, nI_l (by omega), lN_mul, nI_1]
      rw [if_pos c] at ih; exact ih
    · refine br_nf c (b_Th_waysOf_44 ?_)
      rw [hs, show (100 : Int32) = nI 100 from rfl, pk_sub h100, nI_l (by omega), lN_mul, nI_1]
      rw [if_neg c] at ih; exact ih
  · exact b_Th_waysOf_5 (br_t (nI_le (Nat.le_refl _) (by omega)) H)
theorem m_threadBy {nm nb n b N : Nat} (hD : MD nm nb n S M) (hN : Row nb (S.1 42) (M.1 34)) (hb : b < nb) (hN1 : N ≤ 60) (s : Nat) {M1 : xSt} (h1 : eqW M M1) {K : Int32 → xSt → Prop} (H : ∀ M', eqW M M' → K (tIt S n (M.1 5) (M.1 6) b (wB s) N) M') : M_M_threadBy hm e (nI b) (nI N) (nI s) M1 K := by
  have hb10 := hD.1.2
  have e10 : (10 : Int32) + nI b = nI (10 + b) := by rw [show (10 : Int32) = nI 10 from rfl, nI_add]
  have c10 : ((10 : Int32) + nI b).toNatClampNeg = 10 + b := by rw [e10]; exact nCl (by omega)
  refine e_M_threadBy ⟨by rw [e10]; exact vIn (by omega) (by omega), ?_⟩
  rw [c10, h1 34 (by decide) (by decide), (hN.1 b hb).2.1]
  refine lp_inv (B := fun i (q : xSt) => B_M_threadBy_14 hm e (nI b) (nI N) (nI s) (tIt S n (M.1 5) (M.1 6) b (wB s) i) (nI i) q K) (fun i q => eqW M q) N (fun i q hi hI ih => ?_) (fun q hI => ?_) M1 h1
  · refine b_M_threadBy_14 (br_f (nI_ge hi (by omega)) ?_)
    obtain ⟨k, hk, ek⟩ := tIt_N (n := n) (step := M.1 5) (arg := M.1 6) (w := wB s) (hN.1 b hb).2.2 i
    by_cases c : tIt S n (M.1 5) (M.1 6) b (wB s) i ≤ 0
    · refine br_t c ?_
      have z : tIt S n (M.1 5) (M.1 6) b (wB s) i = 0 := by
        rw [ek] at c ⊢
        have : k = 0 := by
          have := (nLe (b := 0) (by omega) (by omega)).mp c
          omega
        rw [this]; rfl
      have := tIt_0 z (N - i)
      rw [show i + (N - i) = N by omega] at this
      rw [z, ← this]; exact H q hI
    · refine br_f c (m_wearDay hD hb hI ⟨k, hk, ek⟩ _ _ (fun M2 h2 => ?_))
      rw [nI_1, hI 34 (by decide) (by decide), hN.2.1]
      exact ih M2 h2
  · exact b_M_threadBy_14 (br_t (nI_le (Nat.le_refl _) (by omega)) (H q hI))
theorem sim_odds (hR : Rel S M) (x1 x2 x3 : Int32) : OK2l Rel (M_O_odds hc d x1 x2 x3 S) (M_M_odds hm e x1 x2 x3 M) := by
  have hR0 := hR
  obtain ⟨nm, nd, nb, nf, hd, st, hP⟩ := hR
  have hN : Row nb (S.1 42) (M.1 34) := hP.2.2.2.1
  have hb : nb ≤ 10 := hP.1.2.2.1.2
  have eb := hP.1.2.2.1.1
  have em : M.1 0 58 = S.1 2 6 := hP.2.1.1.2.2.1
  obtain ⟨es1, es2⟩ : S.1 2 18 = nI st ∧ st ≤ 100 := hP.1.2.2.2.2.2.1
  have esm : M.1 0 61 = nI st := (hP.2.1.1.2.2.2.2.2).trans es1
  obtain ⟨n, hW, hD⟩ := hP.wp
  rcases outC x1 eb (by omega) with c | ⟨b, hb1, rfl, c1, c2⟩
  · exact e_O_odds (btnOn_n c (br_t rfl (e_M_odds (isBut_n eb em (by omega) c (br_t rfl ⟨rfl, hR0⟩)))))
  have eon := (hN.1 b hb1).1
  by_cases on : S.1 42 b = 0
  case neg => exact e_O_odds (btnOn_f (by omega) on (br_t rfl (e_M_odds (isBut_y eb em (by omega) c1 c2 (br_f (by decide) (isOn_n (by omega) (by rw [eon]; exact on) (br_t rfl ⟨rfl, hR0⟩)))))))
  refine e_O_odds (btnOn_y (by omega) c1 c2 on (br_f (by decide) ?_))
  have toM : ∀ {K : Int64 → xSt → Prop}, M_M_isIn hm (e + 3) x2 0 6 M (fun r3 S3 => (r3 = 0 → K (-1) S3) ∧ (¬ r3 = 0 → M_M_isIn hm (e + 3) x3 0 1 S3 (fun r4 S4 => (¬ r4 = 0 → B_M_odds_48 hm e (nI b) x2 x3 0 1 0 S4 K) ∧ (r4 = 0 → K (-1) S4)))) → M_M_odds hm e (nI b) x2 x3 M K := fun H => e_M_odds (isBut_y eb em (by omega) c1 c2 (br_f (by decide) (isOn_y (by omega) (eon.trans on) (br_f (by decide) H))))
  by_cases a1 : x2 < 0
  · exact br_t a1 (toM (isIn_n (fun z => z.1 a1) (br_t rfl ⟨rfl, hR0⟩)))
  refine br_f a1 ?_
  by_cases a2 : 6 < x2
  · exact br_t a2 (toM (isIn_n (fun z => z.2 a2) (br_t rfl ⟨rfl, hR0⟩)))
  refine br_f a2 ?_
  by_cases a3 : x3 < 0
  · exact br_t a3 (toM (isIn_y ⟨a1, a2⟩ (br_f (by decide) (isIn_n (fun z => z.1 a3) (br_nt rfl ⟨rfl, hR0⟩)))))
  refine br_f a3 ?_
  by_cases a4 : x3 ≤ 1
  case neg =>
    refine br_f a4 (toM (isIn_y ⟨a1, a2⟩ (br_f (by decide) (isIn_n (fun z => a4 ?_) (br_nt rfl ⟨rfl, hR0⟩)))))
    have := z.2
    rw [Int32.lt_iff_toInt_lt] at this
    rw [Int32.le_iff_toInt_le]; omega
  have a4' : ¬ 1 < x3 := by rw [Int32.lt_iff_toInt_lt]; rw [Int32.le_iff_toInt_le] at a4; omega
  refine br_t a4 ?_
  obtain ⟨N, hN1, rfl⟩ := nI_of a1
  have h6 : N ≤ 6 := by
    rw [show (6 : Int32) = nI 6 from rfl, nLt (by omega) hN1] at a2; omega
  obtain ⟨p1, p2, p3⟩ := pw6 h6
  let f : Nat → Int32 := fun s => tIt S n (M.1 5) (M.1 6) b (wB s) N
  have hup : upN f st N (2 ^ N) ≤ 64000000000000 := Nat.le_trans (Nat.le_trans (upN_le (f := f) (N := N) es2 (2 ^ N)) (Nat.mul_le_mul p2 p1)) (by decide)
  -- the class
  have lowC : ∀ (u : Nat) (q : xSt) (K : Int64 → xSt → Prop), u ≤ 64000000000000 → K (if x3 = 0 then lN u / lN (Nat.gcd (100 ^ N) u) else lN (100 ^ N) / lN (Nat.gcd (100 ^ N) u)) q → B_Th_oddsPart_50 hc d (nI N) x3 (lN u) 1 0 q K := by
    intro u q K hu H
    refine lp_up (B := fun i (a : Nat) => B_Th_oddsPart_50 hc d (nI N) x3 (lN u) (lN a) (nI i) q K) (fun i a => a * 100) N (fun i a hi ih => ?_) 1 ?_
    · refine b_Th_oddsPart_50 (br_f (nI_ge hi (by omega)) ?_)
      rw [show (100 : Int64) = lN 100 from rfl, lN_mul, nI_1]; exact ih
    · have e100 : ∀ k, fo (fun (_ : Nat) (a : Nat) => a * 100) k 1 = 100 ^ k := by
        intro k
        induction k with
        | zero => rfl
        | succ k ih => show fo (fun (_ : Nat) (a : Nat) => a * 100) k 1 * 100 = _; rw [ih, Nat.pow_succ]
      rw [e100]
      have gp : 0 < Nat.gcd (100 ^ N) u := Nat.gcd_pos_of_pos_left _ p3
      have gl : Nat.gcd (100 ^ N) u ≤ 100 ^ N := Nat.gcd_le_left _ p3
      have gz : ¬ lN (Nat.gcd (100 ^ N) u) = 0 := fun y => by have := (pk_lEQ (b := 0) (by omega) (by omega)).mp y; omega
      refine b_Th_oddsPart_50 (br_t (nI_le (Nat.le_refl _) (by omega)) (e_Th_commonDivisor (m_gcdC 40 u (100 ^ N) 0 (by omega) (by omega) (by omega) (by omega) ?_)))
      by_cases z : x3 = 0
      · rw [if_pos z] at H
        exact br_nt z (b_Th_oddsPart_90 (br_nf gz ⟨gz, H⟩))
      · rw [if_neg z] at H
        exact br_nf z (b_Th_oddsPart_90 (br_nf gz ⟨gz, H⟩))
  refine e_Th_oddsPart ?_
  refine lp_inv (B := fun i (q : xSt) => B_Th_oddsPart_6 hc d (nI b) (nI N) x3 (lN (upN f st N i)) (nI i) q _) (fun i q => eq1 S q) (2 ^ N) (fun i q hi hI ih => ?_) (fun q hI => ?_) S (fun c _ => rfl)
  · refine b_Th_oddsPart_6 (br_f (by rw [sh_1 N (by omega)]; exact nI_ge hi (by omega)) (m_threadBehind (hW.congr hI.two) hb1 (by omega) _ (fun S2 h2 => ?_)))
    have h2' : eq1 S S2 := fun c hc => (h2 c hc).trans (hI c hc)
    rw [tIt_eq1 hI, tIt_ext (w' := wB i) (fun j hj => wB_l i (by omega) j (by omega))]
    have ih' : ∀ b', eq1 S b' → B_Th_oddsPart_6 hc d (nI b) (nI N) x3 (lN (if f i = 0 then upN f st N i else upN f st N i + wayN st i N)) (nI (i + 1)) b' _ := ih
    obtain ⟨k, hk, ek⟩ := tIt_N (n := n) (step := M.1 5) (arg := M.1 6) (w := wB i) (hN.1 b hb1).2.2 N
    by_cases z : f i = 0
    · rw [if_pos z] at ih'
      have z' : tIt S n (M.1 5) (M.1 6) b (wB i) N = 0 := z
      refine br_t (by rw [z']; decide) (b_Th_oddsPart_38 ?_)
      rw [nI_1]; exact ih' S2 h2'
    · rw [if_neg z] at ih'
      refine br_f (fun y => z ?_) (m_waysOf (by rw [h2' 2 (by decide)]; exact es1) es2 h6 (b_Th_oddsPart_38 ?_))
      · show tIt S n (M.1 5) (M.1 6) b (wB i) N = 0
        rw [ek] at y ⊢
        have : k = 0 := by
          have := (nLe (b := 0) (by omega) (by omega)).mp y
          omega
        rw [this]; rfl
      · rw [nI_1, lN_add]; exact ih' S2 h2'
  · refine b_Th_oddsPart_6 (br_t (by rw [sh_1 N (by omega)]; exact nI_le (Nat.le_refl _) (by omega)) (lowC _ q _ hup ?_))
    -- the reference
    refine toM (isIn_y ⟨a1, a2⟩ (br_f (by decide) (isIn_y ⟨a3, a4'⟩ (br_nf (by decide) ?_))))
    refine lp_up (B := fun i (a : Nat) => B_M_odds_48 hm e (nI b) (nI N) x3 0 (lN a) (nI i) M _) (fun i a => a * 100) N (fun i a hi ih => ?_) 1 ?_
    · refine b_M_odds_48 (br_f (nI_ge hi (by omega)) ?_)
      rw [show (100 : Int64) = lN 100 from rfl, lN_mul, nI_1]; exact ih
    · have e100 : ∀ k, fo (fun (_ : Nat) (a : Nat) => a * 100) k 1 = 100 ^ k := by
        intro k
        induction k with
        | zero => rfl
        | succ k ih => show fo (fun (_ : Nat) (a : Nat) => a * 100) k 1 * 100 = _; rw [ih, Nat.pow_succ]
      rw [e100]
      refine b_M_odds_48 (br_t (nI_le (Nat.le_refl _) (by omega)) ?_)
      refine lp_inv (B := fun i (q2 : xSt) => B_M_odds_71 hm e (nI b) (nI N) x3 (lN (upN f st N i)) (lN (100 ^ N)) (nI i) q2 _) (fun i q2 => eqW M q2) (2 ^ N) (fun i q2 hi hI2 ih => ?_) (fun q2 hI2 => ?_) M (fun c _ _ => rfl)
      · refine b_M_odds_71 (br_f (by rw [sh_1 N (by omega)]; exact nI_ge hi (by omega)) (m_threadBy hD hN hb1 (by omega) i hI2 (fun M2 h2 => ?_)))
        have ih' : ∀ b', eqW M b' → B_M_odds_71 hm e (nI b) (nI N) x3 (lN (if f i = 0 then upN f st N i else upN f st N i + wayN st i N)) (lN (100 ^ N)) (nI (i + 1)) b' _ := ih
        show (¬ f i = 0 → _) ∧ (f i = 0 → _)
        by_cases z : f i = 0
        · rw [if_pos z] at ih'
          refine br_nt z (b_M_odds_150 ?_)
          rw [nI_1]; exact ih' M2 h2
        · rw [if_neg z] at ih'
          refine br_nf z ?_
          refine lp_up (B := fun j (a : Nat) => B_M_odds_99 hm e (nI b) (nI N) x3 (lN (upN f st N i)) (lN (100 ^ N)) (nI i) (lN a) (nI j) M2 _) (fun j a => a * (if wB i j = 1 then st else 100 - st)) N (fun j a hj ih2 => ?_) 1 ?_
          · refine b_M_odds_99 (br_f (nI_ge hj (by omega)) ?_)
            rw [h2 0 (by decide) (by decide)]
            by_cases c : wB i j = 1
            · refine br_nt c (b_M_odds_134 ?_)
              rw [esm, nI_l (by omega), lN_mul, nI_1]
              rw [if_pos c] at ih2; exact ih2
            · refine br_nf c (b_M_odds_134 ?_)
              rw [esm, show (100 : Int32) = nI 100 from rfl, pk_sub es2, nI_l (by omega), lN_mul, nI_1]
              rw [if_neg c] at ih2; exact ih2
          · refine b_M_odds_99 (br_t (nI_le (Nat.le_refl _) (by omega)) (b_M_odds_150 ?_))
            rw [nI_1, lN_add]; exact ih' M2 h2
      · refine b_M_odds_71 (br_t (by rw [sh_1 N (by omega)]; exact nI_le (Nat.le_refl _) (by omega)) (e_M_common (m_gcdM _ _ (by omega) (by omega) ?_)))
        rw [Nat.gcd_comm]
        have gp : 0 < Nat.gcd (100 ^ N) (upN f st N (2 ^ N)) := Nat.gcd_pos_of_pos_left _ p3
        have gl : Nat.gcd (100 ^ N) (upN f st N (2 ^ N)) ≤ 100 ^ N := Nat.gcd_le_left _ p3
        have gz : ¬ lN (Nat.gcd (100 ^ N) (upN f st N (2 ^ N))) = 0 := fun y => by have := (pk_lEQ (b := 0) (by omega) (by omega)).mp y; omega
        have fin : Rel q q2 := ⟨nm, nd, nb, nf, hd, st, hP.eq1W hI hI2⟩
        by_cases z : x3 = 0
        · exact br_nt z ⟨gz, by rw [if_pos z], fin⟩
        · exact br_nf z ⟨gz, by rw [if_neg z], fin⟩
end
