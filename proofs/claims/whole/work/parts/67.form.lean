section
-- the formula's signs, on lists
def tt (o : Nat) : Nat := if o = 21 then 3 else if o = 38 then 2 else if o = 43 then 5 else if o = 45 then 5 else if o = 60 then 4 else if o = 61 then 4 else if o = 62 then 4 else if o = 124 then 1 else 6
abbrev opL : List Nat := [43, 45, 42, 47, 37, 60, 62, 61, 38, 124]
def cod (o : Nat) : Nat := if o = 21 then 33 else o
def okp (o : Nat) : Prop := o = 21 ∨ o ∈ opL
def isO (c : Nat) : Prop := (1000 ≤ c ∧ c ≤ 10999) ∨ c = 116 ∨ c = 104 ∨ c = 115 ∨ c = 100
def nots : List Nat → Nat
  | [] => 0
  | o :: s => (if o = 21 then 1 else 0) + nots s
def stk : List Nat → (Nat → Int32) → Prop
  | [], _ => True
  | o :: s, f => f s.length = nI o ∧ stk s f
def wf : List Nat → Nat → Nat → Prop
  | [], a, b => a = b
  | c :: l, a, b => (isO c ∧ a + 1 ≤ 30 ∧ wf l (a + 1) b) ∨ (c = 33 ∧ 1 ≤ a ∧ wf l a b) ∨ (c ∈ opL ∧ 2 ≤ a ∧ wf l (a - 1) b)
def tp (L : Nat) (s : List Nat) : Prop := ∀ o s', s = o :: s' → o = 20 ∨ (okp o ∧ tt o < L)
def hasR : List Nat → Prop
  | [] => False
  | o :: s => okp o ∧ (tt o = 4 ∨ (4 < tt o ∧ hasR s))
theorem nots_app (a b : List Nat) : nots (a ++ b) = nots a + nots b := by
  induction a with
  | nil => simp [nots]
  | cons o s ih => simp only [List.cons_append, nots, ih]; omega
theorem wf_app {l l' : List Nat} : ∀ {a b c : Nat}, wf l a b → wf l' b c → wf (l ++ l') a c := by
  induction l with
  | nil => intro a b c h g; simp only [wf] at h; rw [h]; exact g
  | cons x s ih =>
    intro a b c h g
    simp only [List.cons_append, wf] at h ⊢
    rcases h with ⟨h1, h2, h3⟩ | ⟨h1, h2, h3⟩ | ⟨h1, h2, h3⟩
    · exact Or.inl ⟨h1, h2, ih h3 g⟩
    · exact Or.inr (Or.inl ⟨h1, h2, ih h3 g⟩)
    · exact Or.inr (Or.inr ⟨h1, h2, ih h3 g⟩)
theorem hasR_app {a b : List Nat} (h : hasR a) : hasR (a ++ b) := by
  induction a with
  | nil => exact absurd h (by simp [hasR])
  | cons o s ih =>
    simp only [List.cons_append, hasR] at h ⊢
    refine ⟨h.1, ?_⟩
    rcases h.2 with h2 | ⟨h2, h3⟩
    · exact Or.inl h2
    · exact Or.inr ⟨h2, ih h3⟩
theorem stk_up {s : List Nat} {f : Nat → Int32} {j : Nat} {v : Int32} (h : stk s f) (hj : s.length ≤ j) : stk s (upd f j v) := by
  induction s with
  | nil => exact trivial
  | cons o s ih =>
    obtain ⟨h1, h2⟩ := h
    simp only [List.length_cons] at hj
    refine ⟨?_, ih h2 (by omega)⟩
    rw [up_n _ _ (by omega)]; exact h1
theorem opL_b : ∀ o, o ∈ opL → o ≠ 20 ∧ o ≠ 21 ∧ o ≠ 33 ∧ o < 125 ∧ 30 < o := by decide
theorem okp_b {o : Nat} (h : okp o) : o ≠ 20 ∧ o < 125 ∧ 20 < o := by
  rcases h with h | h
  · omega
  · have := opL_b o h; omega
theorem tt_b (o : Nat) : 1 ≤ tt o ∧ tt o ≤ 6 := by
  unfold tt
  repeat' split
  all_goals omega
theorem opC : ∀ o, o ∈ opL → isOp (nI o) ∧ cod o = o := by
  intro o h
  have : o = 43 ∨ o = 45 ∨ o = 42 ∨ o = 47 ∨ o = 37 ∨ o = 60 ∨ o = 62 ∨ o = 61 ∨ o = 38 ∨ o = 124 := by simpa [opL] using h
  rcases this with rfl | rfl | rfl | rfl | rfl | rfl | rfl | rfl | rfl | rfl <;> exact ⟨by unfold isOp; decide, by decide⟩
-- what is well formed comes to what the relation asks
theorem wf_ok {step arg code : Nat → Int32} {b : Nat} : ∀ (l pre : List Nat) (a : Nat), a ≤ 30 → wf l a b → (∀ i c, (pre ++ l)[i]? = some c → wEnc (nI c) (step i) (arg i)) → wDep step pre.length = a → ∀ k, pre.length ≤ k → k < pre.length + l.length → (step k = 2 → 1 ≤ wDep step k) ∧ (step k = 3 → 2 ≤ wDep step k) ∧ wDep step (k + 1) ≤ 30 := by
  intro l
  induction l with
  | nil => intro pre a ha h he hd k h1 h2; simp at h2; omega
  | cons c l ih =>
    intro pre a ha h he hd k h1 h2
    have e0 : wEnc (nI c) (step pre.length) (arg pre.length) := he pre.length c (by simp)
    have he' : ∀ i c', ((pre ++ [c]) ++ l)[i]? = some c' → wEnc (nI c') (step i) (arg i) := fun i c' hi => he i c' (by simpa using hi)
    have hl : (pre ++ [c]).length = pre.length + 1 := by simp
    simp only [List.length_cons] at h2
    have st01 : isO c → step pre.length = 0 ∨ step pre.length = 1 := by
      intro ho
      rcases e0 with ⟨s0, -⟩ | ⟨s0, -⟩ | ⟨s0, e⟩ | ⟨s0, e, e'⟩
      · exact Or.inl s0
      · exact Or.inr s0
      · exfalso
        have hc : c < 20000 := by unfold isO at ho; omega
        have := (nEq (b := 33) (by omega) (by omega)).mp e
        unfold isO at ho; omega
      · exfalso
        have hc : c < 20000 := by unfold isO at ho; omega
        rw [← e] at e'
        have ng : ∀ m, m < 20000 → ¬ c = m → ¬ nI c = nI m := fun m hm hne z => hne ((nEq (by omega) (by omega)).mp z)
        unfold isO at ho
        rcases e' with z | z | z | z | z | z | z | z | z | z
        · exact ng 43 (by omega) (by omega) z
        · exact ng 45 (by omega) (by omega) z
        · exact ng 42 (by omega) (by omega) z
        · exact ng 47 (by omega) (by omega) z
        · exact ng 37 (by omega) (by omega) z
        · exact ng 60 (by omega) (by omega) z
        · exact ng 62 (by omega) (by omega) z
        · exact ng 61 (by omega) (by omega) z
        · exact ng 38 (by omega) (by omega) z
        · exact ng 124 (by omega) (by omega) z
    have ng : c < 20000 → ∀ m, m < 20000 → ¬ c = m → ¬ nI c = nI m := fun hc m hm hne z => hne ((nEq (by omega) (by omega)).mp z)
    have st2 : c = 33 → step pre.length = 2 := by
      intro ho
      rcases e0 with ⟨s0, k0, hk0, -, e⟩ | ⟨s0, ⟨-, e⟩ | ⟨-, e⟩ | ⟨-, e⟩ | ⟨-, e⟩⟩ | ⟨s0, -⟩ | ⟨s0, e, e'⟩
      · exact absurd e (ng (by omega) _ (by omega) (by omega))
      · exact absurd e (ng (by omega) 116 (by omega) (by omega))
      · exact absurd e (ng (by omega) 104 (by omega) (by omega))
      · exact absurd e (ng (by omega) 115 (by omega) (by omega))
      · exact absurd e (ng (by omega) 100 (by omega) (by omega))
      · exact s0
      · exfalso
        rw [← e, ho] at e'
        revert e'; unfold isOp; decide
    have st3 : c ∈ opL → step pre.length = 3 := by
      intro ho
      have hb := opL_b c ho
      rcases e0 with ⟨s0, k0, hk0, -, e⟩ | ⟨s0, ⟨-, e⟩ | ⟨-, e⟩ | ⟨-, e⟩ | ⟨-, e⟩⟩ | ⟨s0, e⟩ | ⟨s0, -⟩
      · exact absurd e (ng (by omega) _ (by omega) (by omega))
      · exact absurd e (ng (by omega) 116 (by omega) (fun z => by rw [z] at ho; revert ho; decide))
      · exact absurd e (ng (by omega) 104 (by omega) (fun z => by rw [z] at ho; revert ho; decide))
      · exact absurd e (ng (by omega) 115 (by omega) (fun z => by rw [z] at ho; revert ho; decide))
      · exact absurd e (ng (by omega) 100 (by omega) (fun z => by rw [z] at ho; revert ho; decide))
      · exact absurd e (ng (by omega) 33 (by omega) (by omega))
      · exact s0
    have dS : wDep step (pre.length + 1) = if step pre.length = 0 ∨ step pre.length = 1 then a + 1 else if step pre.length = 2 then a else a - 1 := by rw [← hd]; rfl
    simp only [wf] at h
    rcases h with ⟨g1, g2, g3⟩ | ⟨g1, g2, g3⟩ | ⟨g1, g2, g3⟩
    · have s := st01 g1
      rw [if_pos s] at dS
      by_cases y : k = pre.length
      · rw [y, dS, hd]
        refine ⟨fun z => ?_, fun z => ?_, g2⟩
        · rcases s with s | s <;> (rw [s] at z; exact absurd z (by decide))
        · rcases s with s | s <;> (rw [s] at z; exact absurd z (by decide))
      · exact ih (pre ++ [c]) (a + 1) g2 g3 he' (by rw [hl]; exact dS) k (by omega) (by omega)
    · have s := st2 g1
      rw [s, if_neg (by decide), if_pos rfl] at dS
      by_cases y : k = pre.length
      · rw [y, dS, hd, s]
        refine ⟨fun _ => g2, fun z => absurd z (by decide), ?_⟩
        exact ha
      · exact ih (pre ++ [c]) a ha g3 he' (by rw [hl]; exact dS) k (by omega) (by omega)
    · have s := st3 g1
      rw [s, if_neg (by decide), if_neg (by decide)] at dS
      by_cases y : k = pre.length
      · rw [y, dS, hd, s]
        exact ⟨fun z => absurd z (by decide), fun _ => g2, by omega⟩
      · exact ih (pre ++ [c]) (a - 1) (by omega) g3 he' (by rw [hl]; exact dS) k (by omega) (by omega)
end
