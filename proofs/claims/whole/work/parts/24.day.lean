section
def OK2 (Rel : xSt → xSt → Prop) (P Q : (Int32 → xSt → Prop) → Prop) : Prop := P (fun r S' => Q (fun r' M' => r' = r ∧ Rel S' M'))
def OK2l (Rel : xSt → xSt → Prop) (P Q : (Int64 → xSt → Prop) → Prop) : Prop := P (fun r S' => Q (fun r' M' => r' = r ∧ Rel S' M'))
theorem OKi.to2 {Rel : xSt → xSt → Prop} {P Q : (Int32 → xSt → Prop) → Prop} (h : OKi Rel P Q) : OK2 Rel P Q := by
  obtain ⟨r, S', M', h1, h2, h3⟩ := h
  exact h1 _ (h2 _ ⟨rfl, h3⟩)
/-- a loop upward by an invariant of the state -/
theorem lp_inv {β : Type} {B : Nat → β → Prop} (I : Nat → β → Prop) (n : Nat) (hs : ∀ i b, i < n → I i b → (∀ b', I (i + 1) b' → B (i + 1) b') → B i b) (he : ∀ b, I n b → B n b) (b : β) (h0 : I 0 b) : B 0 b := by
  have h : ∀ k i, i + k = n → ∀ b, I i b → B i b := by
    intro k
    induction k with
    | zero => intro i hi b hb; have : i = n := by omega
              subst this; exact he b hb
    | succ k ih => intro i hi b hb; exact hs i b (by omega) hb (fun b' h' => ih (i + 1) (by omega) b' h')
  exact h n 0 (by omega) b h0
variable {hc hm : xH} {d e : Nat} {S M : xSt}
abbrev hol (S : xSt) (b : Nat) : Int32 := S.1 4 (S.1 8 b).toNatClampNeg
abbrev stA (S : xSt) (b : Nat) (t D : Int32) : Int32 := if 0 < t then (if S.1 11 b < D then (if S.1 10 b = 1 then 3 else 1) else 0) else 4
abbrev sdN (sd : Int32) : Int32 := (sd * 137 + 71) - (sd * 137 + 71) / 1000 * 1000
abbrev stoN (S : xSt) (sd : Int32) : Int32 := if S.1 2 18 ≤ (sd - sd / 100 * 100) then 0 else 1
def nT (S : xSt) (n : Nat) (step arg : Nat → Int32) (s t sto D : Int32) (b : Nat) : Int32 := if s = 0 then t - clmp t (wAmt n step arg t (hol S b) sto D) else t
def nS (S : xSt) (n : Nat) (step arg : Nat → Int32) (s t sto D : Int32) (b : Nat) : Int32 := if s = 0 then stA S b (nT S n step arg s t sto D b) (D + 1) else s
theorem nT_N {n : Nat} {step arg : Nat → Int32} {s sto D : Int32} {b k : Nat} (hk : k ≤ 99) : ∃ k', k' ≤ k ∧ nT S n step arg s (nI k) sto D b = nI k' := by
  unfold nT
  by_cases c : s = 0
  · rw [if_pos c]
    obtain ⟨q, h1, h2⟩ := clmp_N k (by omega) (wAmt n step arg (nI k) (hol S b) sto D)
    exact ⟨k - q, by omega, by rw [h2, pk_sub h1]⟩
  · rw [if_neg c]; exact ⟨k, Nat.le_refl _, rfl⟩
def WP (nm nb n : Nat) (step arg : Nat → Int32) (S : xSt) : Prop := (S.1 2 0 = nI nm ∧ nm ≤ 6) ∧ (S.1 2 6 = nI nb ∧ nb ≤ 10) ∧ (∀ b, b < nb → ∃ k, k < nm ∧ S.1 8 b = nI k) ∧ S.1 15 1 = nI n ∧ n ≤ 300 ∧ wOk n (S.1 16) step arg
theorem m_worn {nm nb n b : Nat} {step arg : Nat → Int32} (hW : WP nm nb n step arg S) (hb : b < nb) {x2 x3 x4 : Int32} {K : Int32 → xSt → Prop} (H : ∀ f, K (x2 - clmp x2 (wAmt n step arg x2 (hol S b) x3 x4)) (x_putA S 17 f)) : M_Co_worn hc d (nI b) x2 x3 x4 S K := by
  obtain ⟨⟨m1, m2⟩, ⟨b1, b2⟩, hby, l1, l2, hok⟩ := hW
  obtain ⟨k, hk, ek⟩ := hby b hb
  have ci : (nI b).toNatClampNeg = b := nCl (by omega)
  obtain ⟨f', run⟩ := m_amount (hc := hc) l1 l2 hok x2 (hol S b) x3 x4
  refine e_Co_worn ⟨vIn (by omega) (by omega), ?_⟩
  rw [ci]
  refine hMan_y (by rw [ek]; exact nN0 (by omega)) (by rw [ek, m1]; exact nI_ge hk (by omega)) (br_f (by decide) ⟨by rw [ek]; exact vIn (by omega) (by omega), b_Co_worn_37 (run _ _ (H f'))⟩)
-- the class's day
abbrev eq2 (S S' : xSt) : Prop := ∀ c, c ≠ 17 → c ≠ 42 → S'.1 c = S.1 c
theorem WP.congr {nm nb n : Nat} {step arg : Nat → Int32} {S' : xSt} (h : WP nm nb n step arg S) (q : eq2 S S') : WP nm nb n step arg S' := by
  unfold WP
  rw [q 2 (by decide) (by decide), q 8 (by decide) (by decide), q 15 (by decide) (by decide), q 16 (by decide) (by decide)]
  exact h
theorem m_passDay {nm nb n : Nat} {step arg : Nat → Int32} (hW : WP nm nb n step arg S) {K : Int32 → xSt → Prop}
    (H : ∀ S', eq2 S S' → (∀ b, b < nb → S'.1 42 b = nS S n step arg (S.1 42 b) (S.1 42 (10 + b)) (stoN S (sdN (S.1 42 21))) (S.1 42 20) b ∧ S'.1 42 (10 + b) = nT S n step arg (S.1 42 b) (S.1 42 (10 + b)) (stoN S (sdN (S.1 42 21))) (S.1 42 20) b) → S'.1 42 20 = S.1 42 20 + 1 → S'.1 42 21 = sdN (S.1 42 21) → S'.1 42 22 = S.1 42 22 →
      K (nI (cN (fun b => S.1 42 b = 0 ∧ nS S n step arg (S.1 42 b) (S.1 42 (10 + b)) (stoN S (sdN (S.1 42 21))) (S.1 42 20) b = 4) nb)) S') : M_Co_passDay hc d S K := by
  have hn := hW.2.1.1
  have hb := hW.2.1.2
  refine e_Co_passDay (m_Co_seed (m_Co_nextSeed (m_Co_stormBy ?_)))
  show B_Co_passDay_19 hc d (sdN (S.1 42 21)) (stoN S (sdN (S.1 42 21))) 0 0 S K
  generalize hsto : stoN S (sdN (S.1 42 21)) = sto at H ⊢
  refine lp_inv (B := fun i (q : Int32 × xSt) => B_Co_passDay_19 hc d (sdN (S.1 42 21)) sto q.1 (nI i) q.2 K) (fun i q => eq2 S q.2 ∧ (∀ b, b < i → q.2.1 42 b = nS S n step arg (S.1 42 b) (S.1 42 (10 + b)) sto (S.1 42 20) b ∧ q.2.1 42 (10 + b) = nT S n step arg (S.1 42 b) (S.1 42 (10 + b)) sto (S.1 42 20) b) ∧ (∀ b, i ≤ b → b < nb → q.2.1 42 b = S.1 42 b ∧ q.2.1 42 (10 + b) = S.1 42 (10 + b)) ∧ (∀ k, 20 ≤ k → q.2.1 42 k = S.1 42 k) ∧ q.1 = nI (cN (fun b => S.1 42 b = 0 ∧ nS S n step arg (S.1 42 b) (S.1 42 (10 + b)) sto (S.1 42 20) b = 4) i)) nb (fun i q hi hI ih => ?_) (fun q hI => ?_) (0, S) ⟨fun c _ _ => rfl, fun b hb => absurd hb (Nat.not_lt_zero b), fun b _ _ => ⟨rfl, rfl⟩, fun k _ => rfl, rfl⟩
  · obtain ⟨lost, S'⟩ := q
    obtain ⟨q1, q2, q3, q4, q5⟩ := hI
    have q5 : lost = nI (cN (fun b => S.1 42 b = 0 ∧ nS S n step arg (S.1 42 b) (S.1 42 (10 + b)) sto (S.1 42 20) b = 4) i) := q5
    have hW' := hW.congr q1
    have hn' := hW'.2.1.1
    have ci : (nI i).toNatClampNeg = i := nCl (by omega)
    have e10 : (10 : Int32) + nI i = nI (10 + i) := by rw [show (10 : Int32) = nI 10 from rfl, nI_add]
    have c10 : ((10 : Int32) + nI i).toNatClampNeg = 10 + i := by rw [e10]; exact nCl (by omega)
    have v23 : vp_in (nI i) 23 := vIn (by omega) (by omega)
    have w23 : vp_in ((10 : Int32) + nI i) 23 := by rw [e10]; exact vIn (by omega) (by omega)
    obtain ⟨s1, s2⟩ := q3 i (Nat.le_refl _) hi
    have h20 := q4 20 (Nat.le_refl _)
    have go : ∀ S2 : xSt, ∀ l2, eq2 S S2 → S2.1 42 = upd (upd (S'.1 42) (10 + i) (nT S n step arg (S.1 42 i) (S.1 42 (10 + i)) sto (S.1 42 20) i)) i (nS S n step arg (S.1 42 i) (S.1 42 (10 + i)) sto (S.1 42 20) i) → l2 = nI (cN (fun b => S.1 42 b = 0 ∧ nS S n step arg (S.1 42 b) (S.1 42 (10 + b)) sto (S.1 42 20) b = 4) (i + 1)) → B_Co_passDay_106 hc d (sdN (S.1 42 21)) sto l2 (nI i) S2 K := by
      intro S2 l2 g1 g2 g3
      refine b_Co_passDay_106 ?_
      rw [nI_1]
      refine ih (l2, S2) ⟨g1, fun b hb' => ?_, fun b hb1 hb2 => ?_, fun k hk => ?_, g3⟩
      · show S2.1 42 b = _ ∧ S2.1 42 (10 + b) = _
        rw [g2]
        by_cases z : b = i
        · subst z
          rw [up_s, up_n _ _ (by omega), up_s]; exact ⟨rfl, rfl⟩
        · rw [up_n _ _ z, up_n _ _ (by omega), up_n _ _ (by omega), up_n _ _ (by omega)]; exact q2 b (by omega)
      · show S2.1 42 b = _ ∧ S2.1 42 (10 + b) = _
        rw [g2, up_n _ _ (by omega), up_n _ _ (by omega), up_n _ _ (by omega), up_n _ _ (by omega)]; exact q3 b (by omega) hb2
      · show S2.1 42 k = _
        rw [g2, up_n _ _ (by omega), up_n _ _ (by omega)]; exact q4 k hk
    refine b_Co_passDay_19 (br_f (by rw [hn']; exact nI_ge hi (by omega)) (m_Co_isOn v23 ?_))
    rw [ci]
    by_cases on : S.1 42 i = 0
    · rw [bi_pos (s1.trans on)]
      refine br_f (by decide) (m_Co_threadOf w23 (m_Co_today (m_worn hW' hi (fun f => ⟨w23, m_Co_today ?_⟩))))
      rw [c10]
      have hh : hol S' i = hol S i := by
        show S'.1 4 (S'.1 8 i).toNatClampNeg = _
        rw [q1 4 (by decide) (by decide), q1 8 (by decide) (by decide)]
      rw [hh, s2, h20]
      have ent : S.1 42 (10 + i) - clmp (S.1 42 (10 + i)) (wAmt n step arg (S.1 42 (10 + i)) (hol S i) sto (S.1 42 20)) = nT S n step arg (S.1 42 i) (S.1 42 (10 + i)) sto (S.1 42 20) i := by unfold nT; rw [if_pos on]
      rw [ent]
      have e42 : (x_putI (x_putA S' 17 f) 42 (10 + i) (nT S n step arg (S.1 42 i) (S.1 42 (10 + i)) sto (S.1 42 20) i)).1 42 = upd (S'.1 42) (10 + i) (nT S n step arg (S.1 42 i) (S.1 42 (10 + i)) sto (S.1 42 20) i) := rfl
      have e20 : (x_putI (x_putA S' 17 f) 42 (10 + i) (nT S n step arg (S.1 42 i) (S.1 42 (10 + i)) sto (S.1 42 20) i)).1 42 20 = S.1 42 20 := by rw [e42, up_n _ _ (by omega)]; exact h20
      rw [e20]
      refine m_Co_stateAfterWear (fun _ => vIn (by omega) (by omega)) (fun _ _ => vIn (by omega) (by omega)) ⟨v23, v23, ?_⟩
      rw [ci]
      have est : (if 0 < nT S n step arg (S.1 42 i) (S.1 42 (10 + i)) sto (S.1 42 20) i then if (x_putI (x_putA S' 17 f) 42 (10 + i) (nT S n step arg (S.1 42 i) (S.1 42 (10 + i)) sto (S.1 42 20) i)).1 11 i < S.1 42 20 + 1 then if (x_putI (x_putA S' 17 f) 42 (10 + i) (nT S n step arg (S.1 42 i) (S.1 42 (10 + i)) sto (S.1 42 20) i)).1 10 i = 1 then 3 else 1 else 0 else 4) = nS S n step arg (S.1 42 i) (S.1 42 (10 + i)) sto (S.1 42 20) i := by
        show (if 0 < _ then if S'.1 11 i < _ then if S'.1 10 i = 1 then (3 : Int32) else 1 else 0 else 4) = _
        rw [q1 11 (by decide) (by decide), q1 10 (by decide) (by decide)]
        unfold nS; rw [if_pos on]
      rw [est]
      have fr : eq2 S (x_putI (x_putI (x_putA S' 17 f) 42 (10 + i) (nT S n step arg (S.1 42 i) (S.1 42 (10 + i)) sto (S.1 42 20) i)) 42 i (nS S n step arg (S.1 42 i) (S.1 42 (10 + i)) sto (S.1 42 20) i)) := by
        intro c h1 h2
        rw [gI_ne _ _ _ h2, gI_ne _ _ _ h2, gA_n _ _ h1]; exact q1 c h1 h2
      by_cases l4 : nS S n step arg (S.1 42 i) (S.1 42 (10 + i)) sto (S.1 42 20) i = 4
      · exact br_nt l4 (go _ _ fr rfl (by rw [cN_s, if_pos ⟨on, l4⟩, q5, nI_1]))
      · exact br_nf l4 (go _ _ fr rfl (by rw [cN_s, if_neg (fun z => l4 z.2), q5]))
    · rw [bi_neg (by rw [s1]; exact on)]
      refine br_t rfl (go _ _ q1 ?_ (by rw [cN_s, if_neg (fun z => on z.1), q5]))
      have a1 : nT S n step arg (S.1 42 i) (S.1 42 (10 + i)) sto (S.1 42 20) i = S'.1 42 (10 + i) := by unfold nT; rw [if_neg on, s2]
      have a2 : nS S n step arg (S.1 42 i) (S.1 42 (10 + i)) sto (S.1 42 20) i = S'.1 42 i := by unfold nS; rw [if_neg on, s1]
      rw [a1, a2]
      funext k
      by_cases z : k = i
      · rw [z, up_s]
      · rw [up_n _ _ z]
        by_cases y : k = 10 + i
        · rw [y, up_s]
        · rw [up_n _ _ y]
  · obtain ⟨lost, S'⟩ := q
    obtain ⟨q1, q2, q3, q4, q5⟩ := hI
    have q5 : lost = nI (cN (fun b => S.1 42 b = 0 ∧ nS S n step arg (S.1 42 b) (S.1 42 (10 + b)) sto (S.1 42 20) b = 4) nb) := q5
    have hn' := (hW.congr q1).2.1.1
    refine b_Co_passDay_19 (br_t (by rw [hn']; exact nI_le (Nat.le_refl _) (by omega)) ?_)
    rw [q5]
    have e42 : (x_putI (x_putI S' 42 21 (sdN (S.1 42 21))) 42 20 (S'.1 42 20 + 1)).1 42 = upd (upd (S'.1 42) 21 (sdN (S.1 42 21))) 20 (S'.1 42 20 + 1) := rfl
    refine H _ (fun c h1 h2 => ?_) (fun b hb' => ?_) ?_ ?_ ?_
    · rw [gI_ne _ _ _ h2, gI_ne _ _ _ h2]; exact q1 c h1 h2
    · rw [e42, up_n _ _ (by omega), up_n _ _ (by omega), up_n _ _ (by omega), up_n _ _ (by omega)]; exact q2 b hb'
    · rw [e42, up_s, q4 20 (Nat.le_refl _)]
    · rw [e42, up_n _ _ (by omega), up_s]
    · rw [e42, up_n _ _ (by omega), up_n _ _ (by omega)]; exact q4 22 (by omega)

-- the reference's day
def FrD (M M' : xSt) : Prop := (∀ c, c ≠ 0 → c ≠ 8 → c ≠ 9 → c ≠ 36 → c ≠ 37 → M'.1 c = M.1 c) ∧ ∀ j, j ≠ 73 → j ≠ 74 → M'.1 0 j = M.1 0 j
theorem FrD.rf (M : xSt) : FrD M M := ⟨fun _ _ _ _ _ _ => rfl, fun _ _ _ => rfl⟩
theorem FrD.tr {M1 M2 M3 : xSt} (h : FrD M1 M2) (g : FrD M2 M3) : FrD M1 M3 := ⟨fun c a b c1 d e => (g.1 c a b c1 d e).trans (h.1 c a b c1 d e), fun j a b => (g.2 j a b).trans (h.2 j a b)⟩
/-- what the reference's day needs, against the class's told data -/
def MD (nm nb n : Nat) (S M : xSt) : Prop := (M.1 0 58 = nI nb ∧ nb ≤ 10) ∧ nm ≤ 6 ∧ (∀ b, b < nb → M.1 27 b = S.1 8 b ∧ (∃ k, k < nm ∧ S.1 8 b = nI k) ∧ M.1 29 b = S.1 11 b ∧ M.1 33 b = S.1 10 b ∧ (S.1 10 b = 0 ∨ S.1 10 b = 1)) ∧ (∀ m, m < nm → M.1 16 m = S.1 4 m) ∧ M.1 0 61 = S.1 2 18 ∧ M.1 0 18 = nI n ∧ n ≤ 300 ∧ (M.1 0 66 = if n = 0 then 0 else 1) ∧ ∃ code, wOk n code (M.1 5) (M.1 6)
theorem MD.fr {nm nb n : Nat} {M' : xSt} (h : MD nm nb n S M) (q : FrD M M') : MD nm nb n S M' := by
  unfold MD
  rw [q.2 58 (by decide) (by decide), q.2 61 (by decide) (by decide), q.2 18 (by decide) (by decide), q.2 66 (by decide) (by decide), q.1 27 (by decide) (by decide) (by decide) (by decide) (by decide), q.1 29 (by decide) (by decide) (by decide) (by decide) (by decide), q.1 33 (by decide) (by decide) (by decide) (by decide) (by decide), q.1 16 (by decide) (by decide) (by decide) (by decide) (by decide), q.1 5 (by decide) (by decide) (by decide) (by decide) (by decide), q.1 6 (by decide) (by decide) (by decide) (by decide) (by decide)]
  exact h
theorem m_wear {nm nb n t : Nat} (h : MD nm nb n S M) (ht : t ≤ 99) (x2 x3 x4 : Int32) {K : Int32 → xSt → Prop} (H : ∀ f g, K (clmp (nI t) (wAmt n (M.1 5) (M.1 6) (nI t) x2 x3 x4)) (x_putA (x_putA M 9 f) 8 g)) : M_M_wearOf hm e (nI t) x2 x3 x4 M K := by
  obtain ⟨-, -, -, -, -, l1, l2, l3, code, hok⟩ := h
  refine m_wearOf l1 l3 l2 hok (nI t) x2 x3 x4 (fun f g => ?_)
  rw [clmp_M n t (by omega)]
  exact H f g
theorem m_goDay {nm nb n : Nat} (h : MD nm nb n S M) (hth : ∀ b, b < nb → ∃ t, t ≤ 99 ∧ M.1 37 b = nI t) {K : Int32 → xSt → Prop}
    (H : ∀ M', FrD M M' → M'.1 0 73 = M.1 0 73 + 1 → M'.1 0 74 = sdN (M.1 0 74) → (∀ b, b < nb → M'.1 36 b = nS S n (M.1 5) (M.1 6) (M.1 36 b) (M.1 37 b) (stoN S (sdN (M.1 0 74))) (M.1 0 73) b ∧ M'.1 37 b = nT S n (M.1 5) (M.1 6) (M.1 36 b) (M.1 37 b) (stoN S (sdN (M.1 0 74))) (M.1 0 73) b) → (∀ b, nb ≤ b → M'.1 36 b = M.1 36 b ∧ M'.1 37 b = M.1 37 b) →
      K (nI (cN (fun b => M.1 36 b = 0 ∧ nS S n (M.1 5) (M.1 6) (M.1 36 b) (M.1 37 b) (stoN S (sdN (M.1 0 74))) (M.1 0 73) b = 4) nb)) M') : M_M_goDay hm e M K := by
  have hn := h.1.1
  have hb := h.1.2
  have hst : M.1 0 61 = S.1 2 18 := h.2.2.2.2.1
  -- behind the seed
  have start : ∀ sto, sto = stoN S (sdN (M.1 0 74)) → B_M_goDay_46 hm e sto 0 0 (x_putI M 0 74 (sdN (M.1 0 74))) K := by
    intro sto hsto
    rw [← hsto] at H
    -- first loop
    refine lp_inv (B := fun i (q : Int32 × xSt) => B_M_goDay_46 hm e sto q.1 (nI i) q.2 K) (fun i q => FrD M q.2 ∧ q.2.1 0 73 = M.1 0 73 ∧ q.2.1 0 74 = sdN (M.1 0 74) ∧ (∀ b, b < i → (q.2.1 36 b = if M.1 36 b = 0 then (if 0 < nT S n (M.1 5) (M.1 6) (M.1 36 b) (M.1 37 b) sto (M.1 0 73) b then 0 else 4) else M.1 36 b) ∧ q.2.1 37 b = nT S n (M.1 5) (M.1 6) (M.1 36 b) (M.1 37 b) sto (M.1 0 73) b) ∧ (∀ b, i ≤ b → q.2.1 36 b = M.1 36 b ∧ q.2.1 37 b = M.1 37 b) ∧ q.1 = nI (cN (fun b => M.1 36 b = 0 ∧ nS S n (M.1 5) (M.1 6) (M.1 36 b) (M.1 37 b) sto (M.1 0 73) b = 4) i)) nb (fun i q hi hI ih => ?_) (fun q hI => ?_) (0, x_putI M 0 74 (sdN (M.1 0 74))) ⟨⟨fun c c0 _ _ _ _ => gI_ne _ _ _ c0, fun j j1 j2 => up_n _ _ j2⟩, rfl, rfl, fun b hb => absurd hb (Nat.not_lt_zero b), fun b _ => ⟨rfl, rfl⟩, rfl⟩
    · obtain ⟨lost, M'⟩ := q
      obtain ⟨q1, qd, qs, q2, q3, q5⟩ := hI
      have q5 : lost = nI (cN (fun b => M.1 36 b = 0 ∧ nS S n (M.1 5) (M.1 6) (M.1 36 b) (M.1 37 b) sto (M.1 0 73) b = 4) i) := q5
      have qd : M'.1 0 73 = M.1 0 73 := qd
      have h' := h.fr q1
      have ci : (nI i).toNatClampNeg = i := nCl (by omega)
      have v10 : vp_in (nI i) 10 := vIn (by omega) (by omega)
      obtain ⟨s1, s2⟩ := q3 i (Nat.le_refl _)
      have s1 : M'.1 36 i = M.1 36 i := s1
      have s2 : M'.1 37 i = M.1 37 i := s2
      have h4 : M.1 36 i = 0 → (nS S n (M.1 5) (M.1 6) (M.1 36 i) (M.1 37 i) sto (M.1 0 73) i = 4 ↔ ¬ 0 < nT S n (M.1 5) (M.1 6) (M.1 36 i) (M.1 37 i) sto (M.1 0 73) i) := by
        intro on
        unfold nS
        rw [if_pos on]
        unfold stA
        by_cases z : 0 < nT S n (M.1 5) (M.1 6) (M.1 36 i) (M.1 37 i) sto (M.1 0 73) i
        · rw [if_pos z]
          refine ⟨fun y => ?_, fun y => absurd z y⟩
          split at y
          · split at y
            · exact absurd y (by decide)
            · exact absurd y (by decide)
          · exact absurd y (by decide)
        · rw [if_neg z]; exact ⟨fun _ => z, fun _ => rfl⟩
      have go : ∀ M2 : xSt, ∀ l2, FrD M' M2 → M2.1 0 73 = M'.1 0 73 → M2.1 0 74 = M'.1 0 74 → M2.1 36 = upd (M'.1 36) i (if M.1 36 i = 0 then (if 0 < nT S n (M.1 5) (M.1 6) (M.1 36 i) (M.1 37 i) sto (M.1 0 73) i then 0 else 4) else M.1 36 i) → M2.1 37 = upd (M'.1 37) i (nT S n (M.1 5) (M.1 6) (M.1 36 i) (M.1 37 i) sto (M.1 0 73) i) → l2 = nI (cN (fun b => M.1 36 b = 0 ∧ nS S n (M.1 5) (M.1 6) (M.1 36 b) (M.1 37 b) sto (M.1 0 73) b = 4) (i + 1)) → B_M_goDay_123 hm e sto l2 (nI i) M2 K := by
        intro M2 l2 g1 gd gs g2 g3 g4
        refine b_M_goDay_123 ?_
        rw [nI_1]
        refine ih (l2, M2) ⟨q1.tr g1, gd.trans qd, gs.trans qs, fun b hb' => ?_, fun b hb1 => ?_, g4⟩
        · show M2.1 36 b = _ ∧ M2.1 37 b = _
          rw [g2, g3]
          by_cases z : b = i
          · subst z; rw [up_s, up_s]; exact ⟨rfl, rfl⟩
          · rw [up_n _ _ z, up_n _ _ z]; exact q2 b (by omega)
        · show M2.1 36 b = _ ∧ M2.1 37 b = _
          rw [g2, g3, up_n _ _ (by omega), up_n _ _ (by omega)]; exact q3 b (by omega)
      refine b_M_goDay_46 (br_f (by rw [h'.1.1]; exact nI_ge hi (by omega)) ⟨v10, ?_⟩)
      rw [ci, s1, s2, qd]
      by_cases on : M.1 36 i = 0
      · refine br_t on ⟨v10, v10, v10, ?_⟩
        obtain ⟨y1, ⟨k, hk, y2⟩, -⟩ := h'.2.2.1 i hi
        obtain ⟨t, ht, et⟩ := hth i hi
        have hl : M'.1 16 (M'.1 27 i).toNatClampNeg = hol S i := by
          rw [y1]
          show _ = S.1 4 (S.1 8 i).toNatClampNeg
          rw [y2, nCl (by have := h.2.1; omega)]
          exact h'.2.2.2.1 k hk
        rw [hl, y1, y2, et]
        refine ⟨vIn (by have := h.2.1; omega) (by omega), m_wear h' ht _ _ _ (fun f g => ⟨v10, v10, ?_⟩)⟩
        have es : M'.1 5 = M.1 5 := q1.1 _ (by decide) (by decide) (by decide) (by decide) (by decide)
        have ea : M'.1 6 = M.1 6 := q1.1 _ (by decide) (by decide) (by decide) (by decide) (by decide)
        rw [es, ea]
        have ent : nI t - clmp (nI t) (wAmt n (M.1 5) (M.1 6) (nI t) (hol S i) sto (M.1 0 73)) = nT S n (M.1 5) (M.1 6) (M.1 36 i) (M.1 37 i) sto (M.1 0 73) i := by unfold nT; rw [if_pos on, et]
        rw [ent]
        by_cases z : 0 < nT S n (M.1 5) (M.1 6) (M.1 36 i) (M.1 37 i) sto (M.1 0 73) i
        · have nz : ¬ nT S n (M.1 5) (M.1 6) (M.1 36 i) (M.1 37 i) sto (M.1 0 73) i ≤ 0 := nle_lt.mpr z
          refine br_f nz (go _ _ ⟨fun c c0 c1 c2 c3 c4 => ?_, fun j j1 j2 => rfl⟩ rfl rfl ?_ rfl ?_)
          · rw [gI_ne _ _ _ c4, gA_n _ _ c1, gA_n _ _ c2]
          · show M'.1 36 = _
            rw [if_pos on, if_pos z]
            funext w
            by_cases ww : w = i
            · rw [ww, up_s, s1, on]
            · rw [up_n _ _ ww]
          · rw [cN_s, if_neg (fun y => ((h4 on).mp y.2) z), q5]
        · have nz : nT S n (M.1 5) (M.1 6) (M.1 36 i) (M.1 37 i) sto (M.1 0 73) i ≤ 0 := by rw [Int32.le_iff_toInt_le]; rw [Int32.lt_iff_toInt_lt] at z; omega
          refine br_t nz ⟨v10, go _ _ ⟨fun c c0 c1 c2 c3 c4 => ?_, fun j j1 j2 => rfl⟩ rfl rfl ?_ rfl ?_⟩
          · rw [gI_ne _ _ _ c3, gI_ne _ _ _ c4, gA_n _ _ c1, gA_n _ _ c2]
          · rw [if_pos on, if_neg z]; rfl
          · rw [cN_s, if_pos ⟨on, (h4 on).mpr z⟩, q5, nI_1]
      · refine br_f on (go _ _ (FrD.rf _) rfl rfl ?_ ?_ (by rw [cN_s, if_neg (fun y => on y.1), q5]))
        · rw [if_neg on]
          funext w
          by_cases ww : w = i
          · rw [ww, up_s, s1]
          · rw [up_n _ _ ww]
        · unfold nT
          rw [if_neg on]
          funext w
          by_cases ww : w = i
          · rw [ww, up_s, s2]
          · rw [up_n _ _ ww]
    · obtain ⟨lost, M1⟩ := q
      obtain ⟨q1, qd, qs, q2, q3, q5⟩ := hI
      have q5 : lost = nI (cN (fun b => M.1 36 b = 0 ∧ nS S n (M.1 5) (M.1 6) (M.1 36 b) (M.1 37 b) sto (M.1 0 73) b = 4) nb) := q5
      have qd : M1.1 0 73 = M.1 0 73 := qd
      refine b_M_goDay_46 (br_t (by rw [(h.fr q1).1.1]; exact nI_le (Nat.le_refl _) (by omega)) ?_)
      -- second loop
      refine lp_inv (B := fun i (M' : xSt) => B_M_goDay_141 hm e lost (nI i) M' K) (fun i M' => FrD M M' ∧ M'.1 0 73 = M.1 0 73 + 1 ∧ M'.1 0 74 = sdN (M.1 0 74) ∧ M'.1 37 = M1.1 37 ∧ (∀ b, b < i → M'.1 36 b = nS S n (M.1 5) (M.1 6) (M.1 36 b) (M.1 37 b) sto (M.1 0 73) b) ∧ (∀ b, i ≤ b → M'.1 36 b = M1.1 36 b)) nb (fun i M' hi hI ih => ?_) (fun M' hI => ?_) (x_putI M1 0 73 (M1.1 0 73 + 1)) ⟨⟨fun c c0 c1 c2 c3 c4 => (gI_ne _ _ _ c0).trans (q1.1 c c0 c1 c2 c3 c4), fun j j1 j2 => (up_n _ _ j1).trans (q1.2 j j1 j2)⟩, by show M1.1 0 73 + 1 = _; rw [qd], qs, rfl, fun b hb => absurd hb (Nat.not_lt_zero b), fun b _ => rfl⟩
      · obtain ⟨r1, rd, rs, r2, r3, r4⟩ := hI
        have h' := h.fr r1
        have ci : (nI i).toNatClampNeg = i := nCl (by omega)
        have v10 : vp_in (nI i) 10 := vIn (by omega) (by omega)
        obtain ⟨y1, y2, y3, y4, y5⟩ := h'.2.2.1 i hi
        have t1 := r4 i (Nat.le_refl _)
        have t2 : M1.1 36 i = if M.1 36 i = 0 then (if 0 < nT S n (M.1 5) (M.1 6) (M.1 36 i) (M.1 37 i) sto (M.1 0 73) i then 0 else 4) else M.1 36 i := (q2 i hi).1
        have go : ∀ M2 : xSt, FrD M' M2 → M2.1 0 73 = M'.1 0 73 → M2.1 0 74 = M'.1 0 74 → M2.1 37 = M'.1 37 → M2.1 36 = upd (M'.1 36) i (nS S n (M.1 5) (M.1 6) (M.1 36 i) (M.1 37 i) sto (M.1 0 73) i) → B_M_goDay_191 hm e lost (nI i) M2 K := by
          intro M2 g1 gd gs gt g2
          refine b_M_goDay_191 ?_
          rw [nI_1]
          refine ih M2 ⟨r1.tr g1, gd.trans rd, gs.trans rs, gt.trans r2, fun b hb' => ?_, fun b hb1 => ?_⟩
          · rw [g2]
            by_cases z : b = i
            · subst z; rw [up_s]
            · rw [up_n _ _ z]; exact r3 b (by omega)
          · rw [g2, up_n _ _ (by omega)]; exact r4 b (by omega)
        have same : M'.1 36 i = nS S n (M.1 5) (M.1 6) (M.1 36 i) (M.1 37 i) sto (M.1 0 73) i → M'.1 36 = upd (M'.1 36) i (nS S n (M.1 5) (M.1 6) (M.1 36 i) (M.1 37 i) sto (M.1 0 73) i) := by
          intro z
          funext w
          by_cases ww : w = i
          · rw [ww, up_s, z]
          · rw [up_n _ _ ww]
        refine b_M_goDay_141 (br_f (by rw [h'.1.1]; exact nI_ge hi (by omega)) ⟨v10, ?_⟩)
        rw [ci]
        by_cases on : M.1 36 i = 0
        · rw [if_pos on] at t2
          by_cases z : 0 < nT S n (M.1 5) (M.1 6) (M.1 36 i) (M.1 37 i) sto (M.1 0 73) i
          · rw [if_pos z] at t2
            have s0 : M'.1 36 i = 0 := t1.trans t2
            refine br_nt s0 ⟨v10, ?_⟩
            rw [y3, rd]
            have en : nS S n (M.1 5) (M.1 6) (M.1 36 i) (M.1 37 i) sto (M.1 0 73) i = if S.1 11 i < M.1 0 73 + 1 then (if S.1 10 i = 1 then 3 else 1) else 0 := by
              unfold nS
              rw [if_pos on]
              show (if 0 < _ then _ else (4 : Int32)) = _
              rw [if_pos z]
            by_cases u : M.1 0 73 + 1 ≤ S.1 11 i
            · refine br_t u (go M' (FrD.rf _) rfl rfl rfl (same ?_))
              rw [en, if_neg (fun y => (nle_lt.mpr y) u), s0]
            · have u2 : S.1 11 i < M.1 0 73 + 1 := nle_lt.mp u
              refine br_f u ⟨v10, ?_⟩
              rw [y4]
              rcases y5 with p | p
              · refine br_t p (b_M_goDay_190 ⟨v10, go _ ⟨fun c c0 c1 c2 c3 c4 => gI_ne _ _ _ c3, fun j _ _ => rfl⟩ rfl rfl rfl ?_⟩)
                rw [ci, en, if_pos u2, if_neg (by rw [p]; decide)]; rfl
              · refine br_f (by rw [p]; decide) (b_M_goDay_190 ⟨v10, go _ ⟨fun c c0 c1 c2 c3 c4 => gI_ne _ _ _ c3, fun j _ _ => rfl⟩ rfl rfl rfl ?_⟩)
                rw [ci, en, if_pos u2, if_pos p]; rfl
          · rw [if_neg z] at t2
            have s4 : M'.1 36 i = 4 := t1.trans t2
            refine br_nf (by rw [s4]; decide) (go M' (FrD.rf _) rfl rfl rfl (same ?_))
            unfold nS
            rw [if_pos on, s4]
            show _ = (if 0 < _ then _ else (4 : Int32))
            rw [if_neg z]
        · rw [if_neg on] at t2
          have s4 : M'.1 36 i = M.1 36 i := t1.trans t2
          refine br_nf (by rw [s4]; exact on) (go M' (FrD.rf _) rfl rfl rfl (same ?_))
          unfold nS
          rw [if_neg on, s4]
      · obtain ⟨r1, rd, rs, r2, r3, r4⟩ := hI
        refine b_M_goDay_141 (br_t (by rw [(h.fr r1).1.1]; exact nI_le (Nat.le_refl _) (by omega)) ?_)
        rw [q5]
        exact H M' r1 rd rs (fun b hb' => ⟨r3 b hb', by rw [r2]; exact (q2 b hb').2⟩) (fun b hb' => ⟨(r4 b hb').trans (q3 b hb').1, by rw [r2]; exact (q3 b hb').2⟩)
  refine e_M_goDay ?_
  rw [hst]
  show (S.1 2 18 ≤ (sdN (M.1 0 74) - sdN (M.1 0 74) / 100 * 100) → _) ∧ (¬ S.1 2 18 ≤ (sdN (M.1 0 74) - sdN (M.1 0 74) / 100 * 100) → _)
  by_cases c : S.1 2 18 ≤ (sdN (M.1 0 74) - sdN (M.1 0 74) / 100 * 100)
  · exact br_t c (b_M_goDay_38 (truth0 (start 0 (by show _ = if _ then _ else _; rw [if_pos c]))))
  · exact br_f c (b_M_goDay_38 (truth1 (start 1 (by show _ = if _ then _ else _; rw [if_neg c]))))
end
