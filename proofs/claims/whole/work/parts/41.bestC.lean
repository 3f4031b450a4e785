section
variable {hc hm : xH} {d e : Nat} {S M : xSt}
-- those below n of which P holds, in turn
def flT (P : Nat → Prop) [DecidablePred P] : Nat → Nat × (Nat → Nat)
  | 0 => (0, fun _ => 0)
  | n + 1 => if P n then ((flT P n).1 + 1, fun j => if j = (flT P n).1 then n else (flT P n).2 j) else flT P n
theorem flT_le (P : Nat → Prop) [DecidablePred P] : ∀ n, (flT P n).1 ≤ n := by
  intro n
  induction n with
  | zero => exact Nat.le_refl _
  | succ n ih => rw [flT]; split <;> (show _ ≤ n + 1; first | omega | exact Nat.succ_le_succ ih)
theorem flT_in (P : Nat → Prop) [DecidablePred P] : ∀ n j, j < (flT P n).1 → (flT P n).2 j < n ∧ P ((flT P n).2 j) := by
  intro n
  induction n with
  | zero => intro j hj; exact absurd hj (Nat.not_lt_zero _)
  | succ n ih =>
    intro j hj
    rw [flT] at hj ⊢
    by_cases c : P n
    · rw [if_pos c] at hj ⊢
      have hj : j < (flT P n).1 + 1 := hj
      show (if j = (flT P n).1 then n else (flT P n).2 j) < n + 1 ∧ P (if j = (flT P n).1 then n else (flT P n).2 j)
      by_cases y : j = (flT P n).1
      · rw [if_pos y]; exact ⟨by omega, c⟩
      · rw [if_neg y]; have := ih j (by omega); exact ⟨by omega, this.2⟩
    · rw [if_neg c] at hj ⊢; have := ih j hj; exact ⟨by omega, this.2⟩
theorem flT_all (P : Nat → Prop) [DecidablePred P] : ∀ n b, b < n → P b → ∃ j, j < (flT P n).1 ∧ (flT P n).2 j = b := by
  intro n
  induction n with
  | zero => intro b hb; exact absurd hb (Nat.not_lt_zero _)
  | succ n ih =>
    intro b hb hp
    rw [flT]
    by_cases c : P n
    · rw [if_pos c]
      by_cases y : b = n
      · exact ⟨(flT P n).1, Nat.lt_succ_self _, by rw [y]; exact if_pos rfl⟩
      · obtain ⟨j, h1, h2⟩ := ih b (by omega) hp
        exact ⟨j, Nat.lt_succ_of_lt h1, by rw [← h2]; exact if_neg (by omega)⟩
    · rw [if_neg c]
      have : b ≠ n := fun z => c (by rw [← z]; exact hp)
      exact ih b (by omega) hp
theorem fo_fl {α : Type} (P : Nat → Prop) [DecidablePred P] (φ : Nat → α → α) (a : α) : ∀ n, fo (fun j x => φ ((flT P n).2 j) x) (flT P n).1 a = fo (fun b x => if P b then φ b x else x) n a := by
  intro n
  induction n with
  | zero => rfl
  | succ n ih =>
    show _ = (if P n then φ n (fo (fun b x => if P b then φ b x else x) n a) else fo (fun b x => if P b then φ b x else x) n a)
    rw [flT]
    by_cases c : P n
    · rw [if_pos c, if_pos c]
      show φ (if (flT P n).1 = (flT P n).1 then n else _) (fo (fun j x => φ (if j = (flT P n).1 then n else (flT P n).2 j) x) (flT P n).1 a) = _
      rw [if_pos rfl, ← ih]
      congr 1
      exact fo_congr (fun j hj x => by rw [if_neg (by omega)]) a
    · rw [if_neg c, if_neg c]; exact ih
-- sets of deeds
def hSe (hr : Nat → Nat) (A : Nat) : Nat → Nat
  | 0 => 0
  | k + 1 => hSe hr A k + (if A.testBit k = true then hr k else 0)
def sSe (f : Nat → Nat) : Nat → Nat
  | 0 => 0
  | n + 1 => sSe f n ||| 2 ^ f n
theorem tb_or (A d x : Nat) : (A ||| 2 ^ d).testBit x = (A.testBit x || decide (d = x)) := by
  rw [Nat.testBit_or, Nat.testBit_two_pow]
theorem sSe_t {f : Nat → Nat} : ∀ n x, (sSe f n).testBit x = oMem f n x := by
  intro n
  induction n with
  | zero => intro x; exact Nat.zero_testBit x
  | succ n ih => intro x; show (sSe f n ||| 2 ^ f n).testBit x = _; rw [tb_or, ih]; rfl
theorem sSe_lt {nd : Nat} {f : Nat → Nat} : ∀ n, (∀ j, j < n → f j < nd) → sSe f n < 2 ^ nd := by
  intro n
  induction n with
  | zero => intro _; exact Nat.pow_pos (by omega)
  | succ n ih => intro h; exact Nat.or_lt_two_pow (ih (fun j hj => h j (by omega))) (Nat.pow_lt_pow_right (by omega) (h n (by omega)))
theorem sSe_c {f f' : Nat → Nat} : ∀ n, (∀ j, j < n → f j = f' j) → sSe f n = sSe f' n := by
  intro n
  induction n with
  | zero => intro _; rfl
  | succ n ih => intro h; show sSe f n ||| 2 ^ f n = sSe f' n ||| 2 ^ f' n; rw [ih (fun j hj => h j (by omega)), h n (by omega)]
theorem sSe_p (o : oT) (d : Nat) : sSe (oPush o d).2 (oPush o d).1 = sSe o.2 o.1 ||| 2 ^ d := by
  show sSe (oPush o d).2 o.1 ||| 2 ^ (oPush o d).2 o.1 = _
  rw [oP_t, sSe_c o.1 (oP_b o d)]
theorem hSe_or (hr : Nat → Nat) {A d : Nat} (h : A.testBit d = false) : ∀ k, hSe hr (A ||| 2 ^ d) k = hSe hr A k + (if d < k then hr d else 0) := by
  intro k
  induction k with
  | zero => rfl
  | succ k ih =>
    show hSe hr (A ||| 2 ^ d) k + (if (A ||| 2 ^ d).testBit k = true then hr k else 0) = hSe hr A k + (if A.testBit k = true then hr k else 0) + _
    rw [ih, tb_or]
    by_cases c : d = k
    · subst c
      rw [h, if_neg (show ¬ d < d by omega), if_pos (by simp), if_neg (by simp), if_pos (show d < d + 1 by omega)]
    · rw [show decide (d = k) = false by simp [c], Bool.or_false]
      by_cases q : d < k
      · rw [if_pos q, if_pos (show d < k + 1 by omega)]; omega
      · rw [if_neg q, if_neg (show ¬ d < k + 1 by omega)]; omega
theorem hSe_s {nd : Nat} {hr f : Nat → Nat} : ∀ n, (∀ j, j < n → f j < nd ∧ oMem f j (f j) = false) → hSe hr (sSe f n) nd = oHrs hr f n := by
  intro n
  induction n with
  | zero =>
    intro _
    have : ∀ k, hSe hr 0 k = 0 := by
      intro k
      induction k with
      | zero => rfl
      | succ k ih => show hSe hr 0 k + _ = 0; rw [ih, Nat.zero_testBit, if_neg (by simp)]
    exact this nd
  | succ n ih =>
    intro h
    have h1 := h n (by omega)
    show hSe hr (sSe f n ||| 2 ^ f n) nd = _
    rw [hSe_or hr (by rw [sSe_t]; exact h1.2), if_pos h1.1, ih (fun j hj => h j (by omega))]; rfl
theorem hSe_le {nd : Nat} {hr : Nat → Nat} (h : ∀ d, d < nd → hr d ≤ 24) (A : Nat) : ∀ k, k ≤ nd → hSe hr A k ≤ 24 * k := by
  intro k
  induction k with
  | zero => intro _; exact Nat.le_refl _
  | succ k ih =>
    intro hk
    have := ih (by omega)
    have := h k (by omega)
    show hSe hr A k + (if A.testBit k = true then hr k else 0) ≤ _
    split <;> omega
theorem set_or : ∀ A, A < 64 → ∀ d, d < 6 → nI A ||| oneAt (nI d) = nI (A ||| 2 ^ d) := by decide +kernel
theorem set_in : ∀ A, A < 64 → ∀ d, d < 6 → ((nI A &&& oneAt (nI d)) = 0 ↔ A.testBit d = false) := by decide +kernel
theorem set_1 : ∀ n, n < 11 → (1 : Int32) <<< (nI n &&& 31) = nI (2 ^ n) := by decide +kernel
theorem or_lt6 {A d nd : Nat} (hA : A < 2 ^ nd) (hd : d < nd) : A ||| 2 ^ d < 2 ^ nd := Nat.or_lt_two_pow hA (Nat.pow_lt_pow_right (by omega) hd)
theorem pw64 {nd : Nat} (h : nd ≤ 6) : 2 ^ nd ≤ 64 := Nat.pow_le_pow_right (by omega) h
theorem or_gt {A d : Nat} (h : A.testBit d = false) : A < A ||| 2 ^ d := by
  rcases Nat.lt_or_ge A (A ||| 2 ^ d) with q | q
  · exact q
  · exfalso
    have h1 : A ≤ A ||| 2 ^ d := Nat.left_le_or
    have : A ||| 2 ^ d = A := by omega
    have h2 := tb_or A d d
    rw [this, h] at h2
    simp at h2
end
