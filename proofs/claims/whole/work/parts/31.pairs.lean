section
variable {hc hm : xH} {d e : Nat} {S M : xSt}
abbrev WS (S : xSt) : Nat → Nat → Int32 := fun i j => S.1 14 (6 * i + j)
/-- what is told of worth: symmetric, nothing told or a small number -/
def WG (W : Nat → Nat → Int32) : Prop := ∀ i j, i < 6 → j < 6 → (W i j = -100 ∨ (-9 ≤ W i j ∧ W i j ≤ 9)) ∧ W i j = W j i
theorem ix6 (i j : Nat) : nI i * 6 + nI j = nI (6 * i + j) := by rw [show (6 : Int32) = nI 6 from rfl, pk_mul, nI_add, Nat.mul_comm]
theorem ix6' (i j : Nat) : 6 * nI i + nI j = nI (6 * i + j) := by rw [show (6 : Int32) = nI 6 from rfl, pk_mul, nI_add]
theorem m_worthOf {i j : Nat} (hi : i < 6) (hj : j < 6) {K : Int32 → xSt → Prop} (H : K (WS S i j) S) : M_Rg_worthOf_2 hc d (nI i) (nI j) S K := m_Rg_worthOf_2 (by rw [ix6]; exact vIn (by omega) (by omega)) (by rw [ix6, nCl (by omega)]; exact H)
theorem m_hasC {n j : Nat} {f : Nat → Nat} (hn : n ≤ 6) (em : S.1 2 0 = nI n) (hj : j < n) (hw : S.1 54 j = wI (f j)) (hf : f j ≤ n) {K : Int32 → xSt → Prop} (H : K (hsW (WS S) f j) S) : M_Tr_has hc d (nI j) S K := by
  have ci : (nI j).toNatClampNeg = j := nCl (by omega)
  have v6 : vp_in (nI j) 6 := vIn (by omega) (by omega)
  refine e_Tr_has ⟨v6, ?_⟩
  rw [ci, hw]
  unfold hsW at H
  by_cases c : f j = 0
  · rw [if_pos c] at H
    rw [wI_0 c]
    exact hMan_n (Or.inl (by decide)) (br_t rfl H)
  · rw [if_neg c] at H
    rw [wI_p c]
    refine hMan_y (nN0 (by omega)) (by rw [em]; exact nI_ge (by omega) (by omega)) (br_f (by decide) ⟨v6, ?_⟩)
    rw [hw, wI_p c]
    exact m_worthOf (by omega) (by omega) H
theorem m_isCalmC {n : Nat} {f : Nat → Nat} (hn : n ≤ 6) (em : S.1 2 0 = nI n) (hw : ∀ j, j < n → S.1 54 j = wI (f j)) (hf : ∀ j, j < n → f j ≤ n) {K : Int32 → xSt → Prop} (H : K (if cmW (WS S) n f then 1 else 0) S) : M_Tr_isCalm hc d S K := by
  have inner : ∀ i, i < n → (∀ k j, j + k = n → (∀ j', i < j' → j' < j → ¬ (hsW (WS S) f i < WS S i j' ∧ hsW (WS S) f j' < WS S i j')) → i < j → ((∀ j', i < j' → j' < n → ¬ (hsW (WS S) f i < WS S i j' ∧ hsW (WS S) f j' < WS S i j')) → B_Tr_isCalm_2 hc d (nI i + 1) S K) → B_Tr_isCalm_17 hc d (nI i) (nI j) S K) := by
    intro i hi k
    induction k with
    | zero =>
      intro j hj hb hij go
      have : j = n := by omega
      subst this
      exact b_Tr_isCalm_17 (br_t (by rw [em]; exact nI_le (Nat.le_refl _) (by omega)) (go (fun j' h1 h2 => hb j' h1 h2)))
    | succ k ih =>
      intro j hj hb hij go
      refine b_Tr_isCalm_17 (br_f (by rw [em]; exact nI_ge (by omega) (by omega)) (m_worthOf (by omega) (by omega) (m_hasC hn em hi (hw i hi) (hf i hi) ?_)))
      have nx : ¬ (hsW (WS S) f i < WS S i j ∧ hsW (WS S) f j < WS S i j) → B_Tr_isCalm_58 hc d (nI i) (nI j) S K := by
        intro z
        refine b_Tr_isCalm_58 ?_
        rw [nI_1]
        refine ih (j + 1) (by omega) (fun j' h1 h2 => ?_) (by omega) go
        by_cases y : j' = j
        · rw [y]; exact z
        · exact hb j' h1 (by omega)
      have lt : ∀ a b : Int32, ¬ a ≤ b → b < a := fun a b h => by rw [Int32.lt_iff_toInt_lt]; rw [Int32.le_iff_toInt_le] at h; omega
      have le : ∀ a b : Int32, a ≤ b → ¬ b < a := fun a b h => by rw [Int32.lt_iff_toInt_lt]; rw [Int32.le_iff_toInt_le] at h; omega
      by_cases c1 : WS S i j ≤ hsW (WS S) f i
      · exact br_t c1 (nx (fun z => le _ _ c1 z.1))
      · refine br_f c1 (m_hasC hn em (by omega) (hw j (by omega)) (hf j (by omega)) ?_)
        by_cases c2 : WS S i j ≤ hsW (WS S) f j
        · exact br_t c2 (nx (fun z => le _ _ c2 z.2))
        · refine br_f c2 ?_
          rw [if_neg (fun z => z i hi j (by omega) hij ⟨lt _ _ c1, lt _ _ c2⟩)] at H
          exact H
  have outer : ∀ k i, i + k = n → (∀ i', i' < i → ∀ j', i' < j' → j' < n → ¬ (hsW (WS S) f i' < WS S i' j' ∧ hsW (WS S) f j' < WS S i' j')) → B_Tr_isCalm_2 hc d (nI i) S K := by
    intro k
    induction k with
    | zero =>
      intro i hi hb
      have : i = n := by omega
      subst this
      refine b_Tr_isCalm_2 (br_t (by rw [em]; exact nI_le (Nat.le_refl _) (by omega)) ?_)
      rw [if_pos (fun i' h1 j' h2 h3 => hb i' h1 j' h3 h2)] at H
      exact H
    | succ k ih =>
      intro i hi hb
      refine b_Tr_isCalm_2 (br_f (by rw [em]; exact nI_ge (by omega) (by omega)) ?_)
      rw [nI_1]
      refine inner i (by omega) (n - (i + 1)) (i + 1) (by omega) (fun j' h1 h2 => absurd h1 (by omega)) (by omega) (fun all => ?_)
      rw [nI_1]
      refine ih (i + 1) (by omega) (fun i' h1 j' h2 h3 => ?_)
      by_cases y : i' = i
      · rw [y] at h2 ⊢; exact all j' h2 h3
      · exact hb i' (by omega) j' h2 h3
  exact e_Tr_isCalm (outer n 0 (by omega) (fun i' h => absurd h (Nat.not_lt_zero _)))
theorem m_copyWith {r : Nat} (hr : layC[r]? = some (.inl (0, 6))) (hr2 : r ≠ 54) {K : xSt → Prop} (H : ∀ S', (∀ c, c ≠ r → S'.1 c = S.1 c) → (∀ j, j < 6 → S'.1 r j = S.1 54 j) → K S') : M_Tr_copyWith hc d r S K := by
  refine e_Tr_copyWith hr ?_
  refine lp_inv (B := fun i (q : xSt) => B_Tr_copyWith_2 hc d r (nI i) q K) (fun i q => (∀ c, c ≠ r → q.1 c = S.1 c) ∧ (∀ j, j < i → q.1 r j = S.1 54 j)) 6 (fun i q hi hI ih => ?_) (fun q hI => ?_) S ⟨fun c _ => rfl, fun j hj => absurd hj (Nat.not_lt_zero _)⟩
  · have ci : (nI i).toNatClampNeg = i := nCl (by omega)
    refine b_Tr_copyWith_2 hr (br_f (nI_ge (b := 6) hi (by omega)) (br_f (nI_ge hi (by omega)) ⟨vIn (by omega) (by omega), vIn (by omega) (by omega), ?_⟩))
    rw [ci, nI_1]
    refine ih _ ⟨fun c h1 => by rw [gI_ne _ _ _ h1]; exact hI.1 c h1, fun j hj => ?_⟩
    rw [gI_same]
    by_cases z : j = i
    · rw [z, up_s, hI.1 _ (Ne.symm hr2)]
    · rw [up_n _ _ z]; exact hI.2 j (by omega)
  · exact b_Tr_copyWith_2 hr (br_t (by decide) (H q hI.1 hI.2))
/-- the class's summary so far, and its pairing -/
def CQ (S0 : xSt) (n : Nat) (w : Nat → Nat) (q : tqT) (S : xSt) : Prop :=
  (∀ c, c ≠ 53 → c ≠ 54 → c ≠ 55 → c ≠ 56 → S.1 c = S0.1 c) ∧ (∀ j, j < n → S.1 54 j = wI (w j)) ∧ S.1 53 3 = q.1.1 ∧ (q.1.2 = none → S.1 53 6 = 0) ∧ (∀ v, q.1.2 = some v → ¬ S.1 53 6 = 0 ∧ ∀ j, j < n → S.1 55 j = wI (dg n v j)) ∧ S.1 53 5 = nI q.2.1 ∧ (∀ v, q.2.2 = some v → ∀ j, j < n → S.1 56 j = wI (dg n v j))
theorem wI_gt {x j : Nat} (hx : x ≤ 6) (hj : j < 6) : wI x ≤ nI j ↔ ¬ j + 1 < x := by
  by_cases c : x = 0
  · rw [wI_0 c]
    refine ⟨fun _ => by omega, fun _ => ?_⟩
    rw [Int32.le_iff_toInt_le, nI_toInt (by omega)]
    have : (-1 : Int32).toInt = -1 := by decide
    omega
  · rw [wI_p c, nLe (by omega) (by omega)]; omega
theorem m_weigh {S0 : xSt} {n v : Nat} {w : Nat → Nat} {q : tqT} (hn : n ≤ 6) (em : S0.1 2 0 = nI n) (hq : CQ S0 n w q S) (hw : ∀ j, j < n → w j = dg n v j) (hv : vOK (WS S0) n (dg n v)) (hc1 : q.2.1 < 2000000) {K : xSt → Prop}
    (H : ∀ S', CQ S0 n w ((if q.1.2 = none ∨ q.1.1 < woW (WS S0) (dg n v) n then (woW (WS S0) (dg n v) n, some v) else q.1), (if cmW (WS S0) n (dg n v) then (q.2.1 + 1, if q.2.1 = 0 then some v else q.2.2) else q.2)) S' → K S') : M_Tr_weigh hc d S K := by
  obtain ⟨q1, q2, q3, q4, q5, q6, q7⟩ := hq
  have eW : ∀ S' : xSt, (∀ c, c ≠ 53 → c ≠ 54 → c ≠ 55 → c ≠ 56 → S'.1 c = S0.1 c) → WS S' = WS S0 := fun S' h => by unfold WS; rw [h 14 (by decide) (by decide) (by decide) (by decide)]
  have eM : ∀ S' : xSt, (∀ c, c ≠ 53 → c ≠ 54 → c ≠ 55 → c ≠ 56 → S'.1 c = S0.1 c) → S'.1 2 0 = nI n := fun S' h => by rw [h 2 (by decide) (by decide) (by decide) (by decide)]; exact em
  have hw' : ∀ j, j < n → S.1 54 j = wI (dg n v j) := fun j hj => by rw [q2 j hj, hw j hj]
  -- the calm ones
  have cont : ∀ (S1 : xSt) (p : Int32 × Option Nat), CQ S0 n w (p, q.2) S1 → p = (if q.1.2 = none ∨ q.1.1 < woW (WS S0) (dg n v) n then (woW (WS S0) (dg n v) n, some v) else q.1) → B_Tr_weigh_76 hc d S1 K := by
    intro S1 p h1 hp
    rw [← hp] at H
    obtain ⟨r1, r2, r3, r4, r5, r6, r7⟩ := h1
    refine b_Tr_weigh_76 (m_isCalmC hn (eM S1 r1) (fun j hj => by rw [r2 j hj, hw j hj]) (fun j _ => dg_le n v j) ?_)
    rw [eW S1 r1]
    by_cases c : cmW (WS S0) n (dg n v)
    · rw [if_pos c] at H ⊢
      refine br_f (by decide) ?_
      by_cases z : q.2.1 = 0
      · rw [if_pos z] at H
        refine br_nt (by rw [r6]; show nI q.2.1 = 0; rw [z]; rfl) (m_copyWith rfl (by decide) (fun S2 g1 g2 => b_Tr_weigh_98 (H _ ⟨fun c h1 h2 h3 h4 => ?_, fun j hj => ?_, ?_, fun y => ?_, fun v' y => ?_, ?_, fun v' y j hj => ?_⟩)))
        · rw [gI_ne _ _ _ h1, g1 c h4]; exact r1 c h1 h2 h3 h4
        · show S2.1 54 j = _; rw [g1 _ (by decide)]; exact r2 j hj
        · show S2.1 53 3 = _; rw [g1 _ (by decide)]; exact r3
        · show S2.1 53 6 = _; rw [g1 _ (by decide)]; exact r4 y
        · show ¬ S2.1 53 6 = _ ∧ ∀ j, j < n → S2.1 55 j = _; rw [g1 _ (by decide), g1 55 (by decide)]; exact r5 v' y
        · show S2.1 53 5 + 1 = _; rw [g1 _ (by decide), r6, nI_1]
        · show S2.1 56 j = _
          injection y with y
          rw [g2 j (by omega), r2 j hj, hw j hj, y]
      · rw [if_neg z] at H
        refine br_nf (by rw [r6]; exact fun y => z ((nEq (b := 0) (by omega) (by omega)).mp y)) (b_Tr_weigh_98 (H _ ⟨fun c h1 h2 h3 h4 => ?_, r2, r3, r4, r5, ?_, r7⟩))
        · rw [gI_ne _ _ _ h1]; exact r1 c h1 h2 h3 h4
        · show S1.1 53 5 + 1 = _; rw [r6, nI_1]
    · rw [if_neg c] at H ⊢
      exact br_t rfl (H _ ⟨r1, r2, r3, r4, r5, r6, r7⟩)
  have best : (q.1.2 = none ∨ q.1.1 < woW (WS S0) (dg n v) n) → B_Tr_weigh_58 hc d (woW (WS S0) (dg n v) n) S K := by
    intro y
    refine b_Tr_weigh_58 (m_copyWith rfl (by decide) (fun S2 g1 g2 => cont S2 _ ⟨fun c h1 h2 h3 h4 => ?_, fun j hj => ?_, ?_, fun y => ?_, fun v' y => ?_, ?_, fun v' y j hj => ?_⟩ (by rw [if_pos y])))
    · rw [g1 c h3, gI_ne _ _ _ h1, gI_ne _ _ _ h1]; exact q1 c h1 h2 h3 h4
    · show S2.1 54 j = _; rw [g1 _ (by decide)]; exact q2 j hj
    · show S2.1 53 3 = _; rw [g1 _ (by decide)]; rfl
    · exact absurd y (by simp)
    · injection y with y
      rw [g1 53 (by decide)]
      refine ⟨by show ¬ (1 : Int32) = 0; decide, fun j hj => ?_⟩
      show S2.1 55 j = _
      rw [g2 j (by omega), ← y]
      show S.1 54 j = _
      rw [q2 j hj, hw j hj]
    · show S2.1 53 5 = _; rw [g1 _ (by decide)]; exact q6
    · show S2.1 56 j = _; rw [g1 _ (by decide)]; exact q7 v' y j hj
  refine e_Tr_weigh ?_
  refine lp_up (B := fun i (a : Int32) => B_Tr_weigh_4 hc d a (nI i) S K) (fun j a => a + (if j + 1 < dg n v j then hsW (WS S0) (dg n v) j else 0)) n (fun i a hi ih => ?_) 0 ?_
  · have ci : (nI i).toNatClampNeg = i := nCl (by omega)
    refine b_Tr_weigh_4 (br_f (by rw [eM S q1]; exact nI_ge hi (by omega)) ⟨vIn (by omega) (by omega), ?_⟩)
    rw [ci, hw' i hi]
    have d6 : dg n v i ≤ 6 := Nat.le_trans (dg_le n v i) hn
    by_cases c : i + 1 < dg n v i
    · rw [if_pos c] at ih
      refine br_f (fun y => (wI_gt d6 (by omega)).mp y c) (m_hasC hn (eM S q1) hi (hw' i hi) (dg_le n v i) (b_Tr_weigh_35 ?_))
      rw [nI_1, eW S q1]; exact ih
    · rw [if_neg c] at ih
      refine br_t ((wI_gt d6 (by omega)).mpr c) (b_Tr_weigh_35 ?_)
      rw [nI_1]; exact ih
  · show B_Tr_weigh_4 hc d (woW (WS S0) (dg n v) n) (nI n) S K
    refine b_Tr_weigh_4 (br_t (by rw [eM S q1]; exact nI_le (Nat.le_refl _) (by omega)) ?_)
    cases hb : q.1.2 with
    | none => exact br_t (q4 hb) (best (Or.inl hb))
    | some v' =>
      refine br_f (q5 v' hb).1 ?_
      by_cases c : woW (WS S0) (dg n v) n ≤ S.1 53 3
      · refine br_t c (cont S q.1 ⟨q1, q2, q3, q4, q5, q6, q7⟩ ?_)
        rw [if_neg]
        intro z
        rcases z with z | z
        · rw [hb] at z; exact absurd z (by simp)
        · rw [q3, Int32.le_iff_toInt_le] at c
          rw [Int32.lt_iff_toInt_lt] at z; omega
      · refine br_f c (best (Or.inr ?_))
        rw [q3, Int32.le_iff_toInt_le] at c
        rw [Int32.lt_iff_toInt_lt]; omega
end
