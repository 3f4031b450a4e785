section
variable {hc hm : xH} {d e : Nat} {S M : xSt}
-- names as numbers
def enc (B : Nat) (g : Nat → Nat) (l : List Nat) : Nat := l.foldl (fun a c => a * B + g c) 0
theorem enc_app (B : Nat) (g : Nat → Nat) (l : List Nat) (c : Nat) : enc B g (l ++ [c]) = enc B g l * B + g c := by unfold enc; rw [List.foldl_append]; rfl
abbrev vL (l : List Nat) : Prop := ∀ c, c ∈ l → 97 ≤ c ∧ c ≤ 122
theorem snoc (l : List Nat) : l = [] ∨ ∃ a c, l = a ++ [c] := by
  rcases List.eq_nil_or_concat l with h | ⟨a, c, h⟩
  · exact Or.inl h
  · exact Or.inr ⟨a, c, by rw [h, List.concat_eq_append]⟩
theorem enc_inj {B : Nat} {g : Nat → Nat} (hg : ∀ c, 97 ≤ c → c ≤ 122 → 1 ≤ g c ∧ g c < B) (hi : ∀ c c', 97 ≤ c → c ≤ 122 → 97 ≤ c' → c' ≤ 122 → g c = g c' → c = c') : ∀ k l l', l.length ≤ k → vL l → vL l' → enc B g l = enc B g l' → l = l' := by
  intro k
  induction k with
  | zero =>
    intro l l' hk hl hl' he
    have : l = [] := List.length_eq_zero_iff.mp (by omega)
    subst this
    rcases snoc l' with h | ⟨a, c, h⟩
    · exact h.symm
    · rw [h, enc_app] at he
      have hc := hl' c (by rw [h]; simp)
      have := (hg c hc.1 hc.2).1
      have he : 0 = enc B g a * B + g c := he
      omega
  | succ k ih =>
    intro l l' hk hl hl' he
    rcases snoc l with h | ⟨a, c, h⟩
    · rcases snoc l' with h' | ⟨a', c', h'⟩
      · rw [h, h']
      · rw [h, h', enc_app] at he
        have hc := hl' c' (by rw [h']; simp)
        have := (hg c' hc.1 hc.2).1
        have he : 0 = enc B g a' * B + g c' := he
        omega
    · have hc := hl c (by rw [h]; simp)
      obtain ⟨g1, g2⟩ := hg c hc.1 hc.2
      rcases snoc l' with h' | ⟨a', c', h'⟩
      · rw [h, h', enc_app] at he
        have he : enc B g a * B + g c = 0 := he
        omega
      · have hc' := hl' c' (by rw [h']; simp)
        obtain ⟨g1', g2'⟩ := hg c' hc'.1 hc'.2
        rw [h, h', enc_app, enc_app] at he
        have m1 : (enc B g a * B + g c) % B = g c := by rw [Nat.mul_comm, Nat.mul_add_mod, Nat.mod_eq_of_lt g2]
        have m2 : (enc B g a' * B + g c') % B = g c' := by rw [Nat.mul_comm, Nat.mul_add_mod, Nat.mod_eq_of_lt g2']
        have e1 : g c = g c' := by rw [← m1, ← m2, he]
        have hB : 0 < B := by omega
        have e2 : enc B g a = enc B g a' := by
          rw [e1] at he
          exact Nat.eq_of_mul_eq_mul_right hB (Nat.add_right_cancel he)
        rw [h, List.length_append] at hk
        have e3 := ih a a' (by simp at hk; omega) (fun x hx => hl x (by rw [h]; simp [hx])) (fun x hx => hl' x (by rw [h']; simp [hx])) e2
        rw [h, h', e3, hi c c' hc.1 hc.2 hc'.1 hc'.2 e1]
theorem enc_lt {B : Nat} {g : Nat → Nat} (hg : ∀ c, 97 ≤ c → c ≤ 122 → g c < B) (l : List Nat) : ∀ a, vL l → l.foldl (fun a c => a * B + g c) a < (a + 1) * B ^ l.length := by
  induction l with
  | nil => intro a _; simp
  | cons c l ih =>
    intro a h
    have hc := h c (by simp)
    have := ih (a * B + g c) (fun x hx => h x (by simp [hx]))
    have h2 := hg c hc.1 hc.2
    show List.foldl _ (a * B + g c) l < (a + 1) * B ^ (l.length + 1)
    refine Nat.lt_of_lt_of_le this ?_
    rw [Nat.pow_succ, Nat.mul_comm (B ^ l.length) B, ← Nat.mul_assoc]
    refine Nat.mul_le_mul_right _ ?_
    rw [Nat.add_mul]; omega
abbrev g5 (c : Nat) : Nat := c - 96
theorem c5 : ∀ c, c < 123 → 97 ≤ c → ((nI c - 97) + 1).toInt64 = lN (c - 96) := by decide +kernel
theorem c8 : ∀ c, c < 123 → (nI c).toInt64 = lN c := by decide +kernel
theorem L5_n (l : List Nat) : ∀ a, vL l → l.foldl s5 (lN a) = lN (l.foldl (fun a c => a * 32 + g5 c) a) := by
  induction l with
  | nil => intro a _; rfl
  | cons c l ih =>
    intro a h
    have hc := h c (by simp)
    show List.foldl s5 (lN a * 32 + ((nI c - 97) + 1).toInt64) l = _
    rw [c5 c (by omega) hc.1, show (32 : Int64) = lN 32 from rfl, lN_mul, lN_add, ih _ (fun x hx => h x (by simp [hx]))]
    rfl
theorem L8_n (l : List Nat) : ∀ a k, vL l → (a + 1) * 256 ^ l.length ≤ 2 ^ 63 → l.length ≤ k → l.foldl s8 (lN a) = lN (l.foldl (fun a c => a * 256 + c) a) := by
  induction l with
  | nil => intro a _ _ _ _; rfl
  | cons c l ih =>
    intro a k h hb hk
    have hc := h c (by simp)
    have hp : 1 ≤ 256 ^ l.length := Nat.pow_pos (by omega)
    have e1 : (a + 1) * 256 ^ (l.length + 1) = (a + 1) * 256 * 256 ^ l.length := by rw [Nat.pow_succ, Nat.mul_comm (256 ^ l.length) 256, ← Nat.mul_assoc]
    have hb : (a + 1) * 256 ^ (l.length + 1) ≤ 2 ^ 63 := hb
    rw [e1] at hb
    have h2 : (a + 1) * 256 ≤ 2 ^ 63 := Nat.le_trans (Nat.le_mul_of_pos_right _ hp) hb
    have sh : lN a <<< ((8 : Int32).toInt64 &&& 63) = lN (a * 256) := wb_shl a (k := 8) (by omega)
    show List.foldl s8 ((lN a <<< ((8 : Int32).toInt64 &&& 63)) ||| (nI c).toInt64) l = _
    rw [sh, c8 c (by omega), g_or (k := 8) rfl (by omega) (by omega), ih _ k (fun x hx => h x (by simp [hx])) ?_ (by simp at hk; omega)]
    · rfl
    · refine Nat.le_trans (Nat.mul_le_mul_right _ ?_) hb
      omega
abbrev nmOK (l : List Nat) : Prop := vL l ∧ l.length ≤ 8
theorem L5_inj {l l' : List Nat} (h : nmOK l) (h' : nmOK l') : L5 l = L5 l' ↔ l = l' := by
  refine ⟨fun z => ?_, fun z => by rw [z]⟩
  have b : ∀ l, nmOK l → enc 32 g5 l < 2 ^ 63 := fun l h => by
    have := enc_lt (B := 32) (g := g5) (fun c _ h2 => by show c - 96 < 32; omega) l 0 h.1
    have p : 32 ^ l.length ≤ 32 ^ 8 := Nat.pow_le_pow_right (by omega) h.2
    have : enc 32 g5 l < (0 + 1) * 32 ^ l.length := this
    omega
  have e1 : ∀ l, nmOK l → L5 l = lN (enc 32 g5 l) := fun l h => L5_n l 0 h.1
  rw [e1 l h, e1 l' h', pk_lEQ (b l h) (b l' h')] at z
  exact enc_inj (fun c h1 h2 => ⟨by show 1 ≤ c - 96; omega, by show c - 96 < 32; omega⟩) (fun c c' _ _ _ _ h => by have h : c - 96 = c' - 96 := h; omega) 8 l l' h.2 h.1 h'.1 z
theorem L8_e {l : List Nat} (h : nmOK l) : L8 l = lN (enc 256 id l) ∧ enc 256 id l < 2 ^ 63 := by
  rcases h with ⟨h1, h2⟩
  cases l with
  | nil => exact ⟨rfl, by decide⟩
  | cons c l =>
    have hc := h1 c (by simp)
    have hl : l.length ≤ 7 := by simp at h2; omega
    have p : 256 ^ l.length ≤ 256 ^ 7 := Nat.pow_le_pow_right (by omega) hl
    have hb : (c + 1) * 256 ^ l.length ≤ 2 ^ 63 := by
      have : (c + 1) * 256 ^ l.length ≤ 123 * 256 ^ 7 := Nat.mul_le_mul (by omega) p
      omega
    have hv : vL l := fun x hx => h1 x (by simp [hx])
    have st : s8 0 c = lN c := by
      show ((0 : Int64) <<< ((8 : Int32).toInt64 &&& 63)) ||| (nI c).toInt64 = lN c
      rw [c8 c (by omega), show (0 : Int64) <<< ((8 : Int32).toInt64 &&& 63) = lN (0 * 256) from wb_shl 0 (k := 8) (by omega), g_or (k := 8) rfl (by omega) (by omega)]
      simp
    refine ⟨?_, ?_⟩
    · show List.foldl s8 (s8 0 c) l = _
      rw [st, L8_n l c 7 hv hb hl]
      show _ = lN (List.foldl (fun a c => a * 256 + id c) (0 * 256 + id c) l)
      simp
    · have := enc_lt (B := 256) (g := id) (fun c _ h2 => by show c < 256; omega) l c hv
      have e : enc 256 id (c :: l) = List.foldl (fun a c => a * 256 + id c) c l := by
        show List.foldl (fun a c => a * 256 + id c) (0 * 256 + id c) l = _
        simp
      rw [e]; omega
theorem L8_inj {l l' : List Nat} (h : nmOK l) (h' : nmOK l') : L8 l = L8 l' ↔ l = l' := by
  refine ⟨fun z => ?_, fun z => by rw [z]⟩
  rw [(L8_e h).1, (L8_e h').1, pk_lEQ (L8_e h).2 (L8_e h').2] at z
  exact enc_inj (g := id) (fun c h1 h2 => ⟨by show 1 ≤ c; omega, by show c < 256; omega⟩) (fun c c' _ _ _ _ h => h) 8 l l' h.2 h.1 h'.1 z
theorem kws_ok : ∀ w, w ∈ kws → nmOK w := by decide
theorem wnF_s {l : List Nat} (hl : nmOK l) : ∀ (ws : List (List Nat)) (k : Nat), (∀ w, w ∈ ws → nmOK w) → (∃ j, j < ws.length ∧ l = ws.getD j [] ∧ wnF (L5 l) k ws = nI (k + j)) ∨ (wnF (L5 l) k ws = -1 ∧ l ∉ ws) := by
  intro ws
  induction ws with
  | nil => intro k _; exact Or.inr ⟨rfl, by simp⟩
  | cons w ws ih =>
    intro k h
    rw [wnF]
    by_cases c : L5 w = L5 l
    · have := (L5_inj (h w (by simp)) hl).mp c
      exact Or.inl ⟨0, by simp, by simp [this], by rw [if_pos c]; rfl⟩
    · rw [if_neg c]
      rcases ih (k + 1) (fun x hx => h x (by simp [hx])) with ⟨j, h1, h2, h3⟩ | ⟨h1, h2⟩
      · refine Or.inl ⟨j + 1, by simp; omega, by simpa using h2, ?_⟩
        rw [h3]; exact congrArg nI (by omega)
      · refine Or.inr ⟨h1, fun z => ?_⟩
        rcases List.mem_cons.mp z with z | z
        · exact c (by rw [z])
        · exact h2 z
def kwl (w : Nat) : List Nat := kws.getD w []
def kw8 (w : Nat) : Int64 := L8 (kwl w)
theorem kwl_ok : ∀ w, w < 22 → nmOK (kwl w) ∧ kwl w ∈ kws := by decide
theorem kwl_inj : ∀ w, w < 22 → ∀ w', w' < 22 → (kwl w = kwl w' ↔ w = w') := by decide +kernel
theorem kw_len : kws.length = 22 := by decide
theorem kws_in {l : List Nat} (h : l ∈ kws) : ∃ w, w < 22 ∧ l = kwl w := by
  obtain ⟨i, hi, e⟩ := List.getElem_of_mem h
  rw [kw_len] at hi
  refine ⟨i, hi, ?_⟩
  unfold kwl
  rw [List.getD_eq_getElem?_getD, List.getElem?_eq_getElem (by rw [kw_len]; exact hi), Option.getD_some, e]
-- numbers
theorem n10 (l : List Nat) : ∀ a, (∀ c, c ∈ l → 48 ≤ c) → l.foldl s10 (nI a) = nI (l.foldl (fun a c => a * 10 + (c - 48)) a) := by
  induction l with
  | nil => intro a _; rfl
  | cons c l ih =>
    intro a h
    have hc := h c (by simp)
    show List.foldl s10 (nI a * 10 + (nI c - 48)) l = _
    rw [show (10 : Int32) = nI 10 from rfl, show (48 : Int32) = nI 48 from rfl, pk_mul, pk_sub hc, nI_add, ih _ (fun x hx => h x (by simp [hx]))]
    rfl
theorem n10' (l : List Nat) : ∀ a, (∀ c, c ∈ l → 48 ≤ c) → l.foldl t10 (nI a) = nI (l.foldl (fun a c => a * 10 + (c - 48)) a) := by
  induction l with
  | nil => intro a _; rfl
  | cons c l ih =>
    intro a h
    have hc := h c (by simp)
    show List.foldl t10 (((10 * nI a) + nI c) - 48) l = _
    rw [show (10 : Int32) = nI 10 from rfl, show (48 : Int32) = nI 48 from rfl, pk_mul, nI_add, pk_sub (by omega), show 10 * a + c - 48 = a * 10 + (c - 48) by omega, ih _ (fun x hx => h x (by simp [hx]))]
    rfl
theorem n10_lt (l : List Nat) : ∀ a, (∀ c, c ∈ l → 48 ≤ c ∧ c ≤ 57) → l.foldl (fun a c => a * 10 + (c - 48)) a < (a + 1) * 10 ^ l.length := by
  induction l with
  | nil => intro a _; simp
  | cons c l ih =>
    intro a h
    have hc := h c (by simp)
    have := ih (a * 10 + (c - 48)) (fun x hx => h x (by simp [hx]))
    show List.foldl _ (a * 10 + (c - 48)) l < (a + 1) * 10 ^ (l.length + 1)
    refine Nat.lt_of_lt_of_le this ?_
    rw [Nat.pow_succ, Nat.mul_comm (10 ^ l.length) 10, ← Nat.mul_assoc]
    refine Nat.mul_le_mul_right _ ?_
    omega
/-- one token, as both hold it: its kind (0 end, 1 bad, 2 name, 3 word, 4 number, 5 sign), number, letters -/
def TokR (k v : Nat) (l : List Nat) (S M : xSt) : Prop := S.1 19 4 = nI k ∧ ((k = 0 ∧ M.1 0 6 = 0) ∨ (k = 1 ∧ M.1 0 6 = 3) ∨ (k = 2 ∧ M.1 0 6 = 1 ∧ S.2.1 19 6 = L5 l ∧ M.2.1 0 9 = L8 l ∧ nmOK l ∧ l ∉ kws) ∨ (k = 3 ∧ v < 22 ∧ S.1 19 5 = nI v ∧ M.1 0 6 = 1 ∧ M.2.1 0 9 = kw8 v) ∨ (k = 4 ∧ v ≤ 9999 ∧ S.1 19 5 = nI v ∧ M.1 0 6 = 2 ∧ M.1 0 8 = nI v) ∨ (k = 5 ∧ v ∈ sgL ∧ S.1 19 5 = nI v ∧ M.1 0 6 = nI v))
/-- both hold the token that begins at q and ends ahead of p -/
def TJ (t : Nat → Nat) (n k v : Nat) (l : List Nat) (q p : Nat) (S M : xSt) : Prop := TC t n S ∧ TM t n M ∧ S.1 19 3 = nI q ∧ M.1 0 7 = nI q ∧ q ≤ n ∧ TokR k v l S M ∧ (2 ≤ k → S.1 19 2 = nI p ∧ M.1 0 4 = nI p ∧ q < p ∧ p ≤ n)
end
