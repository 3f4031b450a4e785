section
def dg (n v j : Nat) : Nat := v / (n + 1) ^ (n - 1 - j) % (n + 1)
def wI (d : Nat) : Int32 := if d = 0 then -1 else nI (d - 1)
theorem dg_le (n v j : Nat) : dg n v j ≤ n := Nat.le_of_lt_succ (Nat.mod_lt _ (Nat.succ_pos n))
theorem wI_0 {d : Nat} (h : d = 0) : wI d = -1 := if_pos h
theorem wI_p {d : Nat} (h : ¬ d = 0) : wI d = nI (d - 1) := if_neg h
abbrev vOK (W : Nat → Nat → Int32) (n : Nat) (f : Nat → Nat) : Prop := ∀ j, j < n → f j = 0 ∨ (f j ≠ j + 1 ∧ f (f j - 1) = j + 1 ∧ ¬ W j (f j - 1) = -100)
def hsW (W : Nat → Nat → Int32) (f : Nat → Nat) (j : Nat) : Int32 := if f j = 0 then 0 else W j (f j - 1)
def woW (W : Nat → Nat → Int32) (f : Nat → Nat) (n : Nat) : Int32 := fo (fun j a => a + (if j + 1 < f j then hsW W f j else 0)) n 0
abbrev cmW (W : Nat → Nat → Int32) (n : Nat) (f : Nat → Nat) : Prop := ∀ i, i < n → ∀ j, j < n → i < j → ¬ (hsW W f i < W i j ∧ hsW W f j < W i j)
abbrev tqT : Type := (Int32 × Option Nat) × (Nat × Option Nat)
/-- what has been found among the rows below v: the best, how many calm ones, the first calm one -/
def tQ (W : Nat → Nat → Int32) (n : Nat) : Nat → tqT
  | 0 => ((0, none), (0, none))
  | v + 1 => if vOK W n (dg n v) then ((if (tQ W n v).1.2 = none ∨ (tQ W n v).1.1 < woW W (dg n v) n then (woW W (dg n v) n, some v) else (tQ W n v).1), (if cmW W n (dg n v) then ((tQ W n v).2.1 + 1, if (tQ W n v).2.1 = 0 then some v else (tQ W n v).2.2) else (tQ W n v).2)) else tQ W n v
theorem tQ_no {W : Nat → Nat → Int32} {n v : Nat} (h : ¬ vOK W n (dg n v)) : tQ W n (v + 1) = tQ W n v := if_neg h
theorem tQ_skip {W : Nat → Nat → Int32} {n a : Nat} : ∀ b, (∀ u, u < b → ¬ vOK W n (dg n (a + u))) → tQ W n (a + b) = tQ W n a := by
  intro b
  induction b with
  | zero => intro _; rfl
  | succ b ih =>
    intro h
    rw [← Nat.add_assoc, tQ_no (h b (by omega))]
    exact ih (fun u hu => h u (by omega))
theorem tQ_c (W : Nat → Nat → Int32) (n : Nat) : ∀ v, (tQ W n v).2.1 ≤ v ∧ ((tQ W n v).2.1 = 0 ↔ (tQ W n v).2.2 = none) := by
  intro v
  induction v with
  | zero => exact ⟨Nat.le_refl _, ⟨fun _ => rfl, fun _ => rfl⟩⟩
  | succ v ih =>
    unfold tQ
    by_cases h : vOK W n (dg n v)
    · rw [if_pos h]
      by_cases c : cmW W n (dg n v)
      · rw [if_pos c]
        refine ⟨by show _ + 1 ≤ _; omega, ⟨fun z => absurd z (Nat.succ_ne_zero _), fun z => ?_⟩⟩
        by_cases y : (tQ W n v).2.1 = 0
        · have : (if (tQ W n v).2.1 = 0 then some v else (tQ W n v).2.2) = none := z
          rw [if_pos y] at this; exact absurd this (by simp)
        · have : (if (tQ W n v).2.1 = 0 then some v else (tQ W n v).2.2) = none := z
          rw [if_neg y] at this; exact absurd (ih.2.mpr this) y
      · rw [if_neg c]; exact ⟨Nat.le_succ_of_le ih.1, ih.2⟩
    · rw [if_neg h]; exact ⟨Nat.le_succ_of_le ih.1, ih.2⟩
-- rows that begin alike
def bsW (n : Nat) (w : Nat → Nat) : Nat → Nat
  | 0 => 0
  | m + 1 => bsW n w m * (n + 1) + w m
theorem bsW_congr {n : Nat} {w w' : Nat → Nat} : ∀ m, (∀ j, j < m → w j = w' j) → bsW n w m = bsW n w' m := by
  intro m
  induction m with
  | zero => intro _; rfl
  | succ m ih => intro h; show bsW n w m * (n + 1) + w m = bsW n w' m * (n + 1) + w' m; rw [ih (fun j hj => h j (by omega)), h m (by omega)]
theorem dg_bs {n : Nat} {w : Nat → Nat} : ∀ m, m ≤ n → (∀ j, j < m → w j ≤ n) → ∀ u, u < (n + 1) ^ (n - m) → ∀ j, j < m → dg n (bsW n w m * (n + 1) ^ (n - m) + u) j = w j := by
  intro m
  induction m with
  | zero => intro _ _ _ _ j hj; exact absurd hj (Nat.not_lt_zero j)
  | succ m ih =>
    intro hm hw u hu j hj
    have ep : (n + 1) ^ (n - m) = (n + 1) * (n + 1) ^ (n - (m + 1)) := by rw [show n - m = (n - (m + 1)) + 1 by omega, Nat.pow_succ, Nat.mul_comm]
    have ev : bsW n w (m + 1) * (n + 1) ^ (n - (m + 1)) + u = bsW n w m * (n + 1) ^ (n - m) + (w m * (n + 1) ^ (n - (m + 1)) + u) := by
      show (bsW n w m * (n + 1) + w m) * _ + u = _
      rw [Nat.add_mul, ep, Nat.mul_assoc, Nat.add_assoc]
    by_cases c : j < m
    · rw [ev]
      refine ih (by omega) (fun j hj => hw j (by omega)) _ ?_ j c
      rw [ep]
      have h1 : w m ≤ n := hw m (by omega)
      have h2 : (w m + 1) * (n + 1) ^ (n - (m + 1)) ≤ (n + 1) * (n + 1) ^ (n - (m + 1)) := Nat.mul_le_mul_right _ (by omega)
      rw [Nat.succ_mul] at h2
      generalize w m * (n + 1) ^ (n - (m + 1)) = A at h2 ⊢
      generalize (n + 1) * (n + 1) ^ (n - (m + 1)) = B at h2 ⊢
      omega
    · have : j = m := by omega
      subst this
      unfold dg
      rw [show n - 1 - j = n - (j + 1) by omega, Nat.add_comm, Nat.add_mul_div_right _ _ (Nat.pow_pos (by omega)), Nat.div_eq_of_lt hu, Nat.zero_add]
      show (bsW n w j * (n + 1) + w j) % (n + 1) = w j
      rw [Nat.add_comm, Nat.add_mul_mod_self_right, Nat.mod_eq_of_lt]
      have := hw j (by omega); omega
/-- a pairing of which men below m are settled -/
def InvW (W : Nat → Nat → Int32) (n m : Nat) (w : Nat → Nat) : Prop := ∀ j, j < n → w j = 0 ∨ (w j ≤ n ∧ w j ≠ j + 1 ∧ w (w j - 1) = j + 1 ∧ ¬ W j (w j - 1) = -100 ∧ (j < m ∨ w j - 1 < m))
theorem InvW.le {W : Nat → Nat → Int32} {n m : Nat} {w : Nat → Nat} (h : InvW W n m w) {j : Nat} (hj : j < n) : w j ≤ n := by
  rcases h j hj with z | z
  · omega
  · exact z.1
theorem InvW.up {W : Nat → Nat → Int32} {n m : Nat} {w : Nat → Nat} (h : InvW W n m w) : InvW W n (m + 1) w := by
  intro j hj
  rcases h j hj with z | ⟨z1, z2, z3, z4, z5⟩
  · exact Or.inl z
  · exact Or.inr ⟨z1, z2, z3, z4, by omega⟩
theorem InvW.pair {W : Nat → Nat → Int32} (hs : ∀ i j, i < 6 → j < 6 → W i j = W j i) {n m o : Nat} {w w' : Nat → Nat} (hn : n ≤ 6) (h : InvW W n m w) (hm : m < o) (ho : o < n) (h1 : w m = 0) (h2 : w o = 0) (hW : ¬ W m o = -100) (eo : w' o = m + 1) (em : w' m = o + 1) (er : ∀ j, j ≠ o → j ≠ m → w' j = w j) : InvW W n (m + 1) w' := by
  intro j hj
  by_cases c1 : j = o
  · right
    subst c1
    rw [eo, show m + 1 - 1 = m by omega, em]
    exact ⟨by omega, by omega, rfl, by rw [hs j m (by omega) (by omega)]; exact hW, by omega⟩
  · by_cases c2 : j = m
    · right
      subst c2
      rw [em, show o + 1 - 1 = o by omega, eo]
      exact ⟨by omega, by omega, rfl, hW, by omega⟩
    · rw [er j c1 c2]
      rcases h j hj with z | ⟨z1, z2, z3, z4, z5⟩
      · exact Or.inl z
      · right
        have n1 : w j - 1 ≠ o := fun y => by rw [y, h2] at z3; omega
        have n2 : w j - 1 ≠ m := fun y => by rw [y, h1] at z3; omega
        rw [er _ n1 n2]
        exact ⟨z1, z2, z3, z4, by omega⟩
theorem vOK_in {W : Nat → Nat → Int32} {n : Nat} {w f : Nat → Nat} (h : InvW W n n w) (hf : ∀ j, j < n → f j = w j) : vOK W n f := by
  intro j hj
  rcases h j hj with z | ⟨z1, z2, z3, z4, z5⟩
  · left; rw [hf j hj]; exact z
  · by_cases c : w j = 0
    · left; rw [hf j hj]; exact c
    · right
      rw [hf j hj, hf (w j - 1) (by omega)]
      exact ⟨z2, z3, z4⟩
-- which rows are none
theorem no_taken {W : Nat → Nat → Int32} {n m k0 e : Nat} {w f : Nat → Nat} (h : InvW W n m w) (hm : m < n) (h0 : w m = k0 + 1) (he : ¬ e = k0 + 1) (hf : ∀ j, j < m → f j = w j) (hfm : f m = e) : ¬ vOK W n f := by
  intro v
  rcases h m hm with z | ⟨z1, z2, z3, z4, z5⟩
  · omega
  · have hk : k0 < m := by omega
    rw [h0, show k0 + 1 - 1 = k0 by omega] at z3
    rcases v k0 (by omega) with y | ⟨y1, y2, y3⟩
    · rw [hf k0 hk, z3] at y; omega
    · rw [hf k0 hk, z3, show m + 1 - 1 = m by omega, hfm] at y2
      exact he y2
theorem no_free {W : Nat → Nat → Int32} {n m o : Nat} {w f : Nat → Nat} (h : InvW W n m w) (hm : m < n) (ho : o < n) (h0 : w m = 0) (hf : ∀ j, j < m → f j = w j) (hfm : f m = o + 1) (hno : o ≤ m ∨ ¬ w o = 0 ∨ W m o = -100) : ¬ vOK W n f := by
  intro v
  rcases v m hm with y | ⟨y1, y2, y3⟩
  · omega
  · rw [hfm, show o + 1 - 1 = o by omega] at y2 y3
    rw [hfm] at y1
    rcases hno with c | c | c
    · have hom : o < m := by omega
      rw [hf o hom] at y2
      rcases h o ho with z | ⟨z1, z2, z3, z4, z5⟩
      · omega
      · rw [y2, show m + 1 - 1 = m by omega, h0] at z3; omega
    · rcases h o ho with z | ⟨z1, z2, z3, z4, z5⟩
      · exact c z
      · by_cases hom : o < m
        · rw [hf o hom] at y2
          rw [y2, show m + 1 - 1 = m by omega, h0] at z3; omega
        · have hk : w o - 1 < m := by omega
          rcases v (w o - 1) (by omega) with x | ⟨x1, x2, x3⟩
          · rw [hf _ hk, z3] at x; omega
          · rw [hf _ hk, z3, show o + 1 - 1 = o by omega, y2] at x2
            omega
    · exact y3 c
end
