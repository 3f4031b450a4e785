section
-- counted loops: f is done for 0, 1 .. n - 1
def fo {α : Type} (f : Nat → α → α) : Nat → α → α
  | 0, a => a
  | n + 1, a => f n (fo f n a)
theorem fo_congr {α : Type} {f g : Nat → α → α} {n : Nat} (h : ∀ i, i < n → ∀ a, f i a = g i a) (a : α) : fo f n a = fo g n a := by
  induction n with
  | zero => rfl
  | succ n ih =>
    show f n (fo f n a) = g n (fo g n a)
    rw [ih (fun i hi => h i (by omega)), h n (by omega)]
/-- a loop upward: B i a is 'at the head, i done, a'; behind it H -/
theorem lp_up {α : Type} {B : Nat → α → Prop} (f : Nat → α → α) (n : Nat) (hs : ∀ i a, i < n → B (i + 1) (f i a) → B i a) (a : α) (H : B n (fo f n a)) : B 0 a := by
  have h : ∀ k i, i + k = n → B i (fo f i a) := by
    intro k
    induction k with
    | zero => intro i hi; rw [show i = n by omega]; exact H
    | succ k ih => intro i hi; exact hs i _ (by omega) (ih (i + 1) (by omega))
  exact h n 0 (by omega)
/-- a loop upward with an invariant that holds of each a on the way -/
theorem lp_upI {α : Type} {B : Nat → α → Prop} (I : Nat → α → Prop) (f : Nat → α → α) (n : Nat) (hi : ∀ i a, i < n → I i a → I (i + 1) (f i a)) (hs : ∀ i a, i < n → I i a → B (i + 1) (f i a) → B i a) (a : α) (h0 : I 0 a) (H : I n (fo f n a) → B n (fo f n a)) : B 0 a := by
  have hI : ∀ i, i ≤ n → I i (fo f i a) := by
    intro i
    induction i with
    | zero => intro _; exact h0
    | succ i ih => intro h; exact hi i _ (by omega) (ih (by omega))
  have h : ∀ k i, i + k = n → B i (fo f i a) := by
    intro k
    induction k with
    | zero => intro i hi; rw [show i = n by omega]; exact H (hI n (by omega))
    | succ k ih => intro i hi; exact hs i _ (by omega) (hI i (by omega)) (ih (i + 1) (by omega))
  exact h n 0 (by omega)
-- numbers
theorem nLe {a b : Nat} (ha : a < 2147483648) (hb : b < 2147483648) : nI a ≤ nI b ↔ a ≤ b := nI_leI ha hb
theorem nLt {a b : Nat} (ha : a < 2147483648) (hb : b < 2147483648) : nI a < nI b ↔ a < b := nI_ltI ha hb
theorem nEq {a b : Nat} (ha : a < 2147483648) (hb : b < 2147483648) : nI a = nI b ↔ a = b := nI_eq ha hb
theorem nCl {a : Nat} (ha : a < 2147483648) : (nI a).toNatClampNeg = a := nI_clamp ha
theorem nN0 {a : Nat} (ha : a < 2147483648) : ¬ nI a < 0 := nI_pos ha
theorem nL0 {a : Nat} (ha : a < 2147483648) : 0 ≤ nI a := nI_pos' ha
theorem nM1 {a : Nat} (ha : a < 2147483648) : ¬ nI a = -1 := by
  intro h
  have h1 := nI_toInt ha
  rw [h] at h1
  have : (-1 : Int32).toInt = -1 := by decide
  omega
theorem i32 {x y : Int32} (h : x.toInt = y.toInt) : x = y := Int32.toInt_inj.mp h
/-- any int is below 0 or a number -/
theorem nOf (x : Int32) : x < 0 ∨ ∃ j : Nat, j < 2147483648 ∧ x = nI j := by
  by_cases h : x < 0
  · exact Or.inl h
  · obtain ⟨j, h1, h2⟩ := nI_of h
    exact Or.inr ⟨j, h1, h2⟩
/-- any int is below 0, at least n, or a number below n -/
theorem nIx (x : Int32) {n : Nat} (hn : n < 2147483648) : x < 0 ∨ nI n ≤ x ∨ ∃ j : Nat, j < n ∧ x = nI j := pk_ix x hn
-- what is put, what is read
theorem gI (S : xSt) (c j : Nat) (v : Int32) (c' : Nat) : (x_putI S c j v).1 c' = if c' = c then upd (S.1 c) j v else S.1 c' := rfl
theorem gI_same (S : xSt) (c j : Nat) (v : Int32) : (x_putI S c j v).1 c = upd (S.1 c) j v := if_pos rfl
theorem gI_ne (S : xSt) {c c' : Nat} (j : Nat) (v : Int32) (h : c' ≠ c) : (x_putI S c j v).1 c' = S.1 c' := if_neg h
theorem up_s (f : Nat → Int32) (k : Nat) (x : Int32) : upd f k x k = x := if_pos rfl
theorem up_n (f : Nat → Int32) {k j : Nat} (x : Int32) (h : j ≠ k) : upd f k x j = f j := if_neg h
-- both systems' calls answer alike
def OKi (Rel : xSt → xSt → Prop) (P Q : (Int32 → xSt → Prop) → Prop) : Prop := ∃ r S' M', (∀ K, K r S' → P K) ∧ (∀ K, K r M' → Q K) ∧ Rel S' M'
theorem OKi.mk {Rel : xSt → xSt → Prop} {P Q : (Int32 → xSt → Prop) → Prop} {r : Int32} {S' M' : xSt} (h1 : ∀ K, K r S' → P K) (h2 : ∀ K, K r M' → Q K) (h3 : Rel S' M') : OKi Rel P Q := ⟨r, S', M', h1, h2, h3⟩
def OKl (Rel : xSt → xSt → Prop) (P Q : (Int64 → xSt → Prop) → Prop) : Prop := ∃ r S' M', (∀ K, K r S' → P K) ∧ (∀ K, K r M' → Q K) ∧ Rel S' M'
end
