section
variable {hc hm : xH} {d e : Nat} {S M : xSt}
def pcI (x : Int32) : Nat := cN (fun b => bt x b = true) 10
theorem pcI_le (x : Int32) : pcI x ≤ 10 := cN_le _ 10
theorem shr_bit (x : Int32) {m : Nat} (h : m < 32) : (x >>> (nI m &&& 31)) &&& 1 = if bt x m = true then 1 else 0 := by
  apply b_ext
  intro i hi
  rw [b_and, b_oneL i hi, b_sshr m h x hi]
  by_cases z : i = 0
  · subst z
    rw [if_pos (by omega), Nat.add_zero]
    cases q : bt x m with
    | true => rw [if_pos rfl, b_oneL 0 (by omega)]; rfl
    | false => rw [if_neg (by simp), b_0]; rfl
  · rw [show decide (i = 0) = false by simp [z], Bool.and_false]
    cases q : bt x m with
    | true => rw [if_pos rfl, b_oneL i hi]; simp [z]
    | false => rw [if_neg (by simp), b_0]
theorem m_members (x : Int32) {K : Int32 → xSt → Prop} (H : K (nI (pcI x)) M) : M_M_members hm e x M K := by
  refine e_M_members ?_
  refine lp_up (B := fun i (a : Nat) => B_M_members_4 hm e x (nI a) (nI i) M K) (fun i a => if bt x i = true then a + 1 else a) 10 (fun i a hi ih => ?_) 0 ?_
  · refine b_M_members_4 (br_f (nI_ge (b := 10) hi (by omega)) ?_)
    rw [shr_bit x (by omega), nI_1]
    by_cases c : bt x i = true
    · rw [if_pos c] at ih ⊢; rw [nI_1]; exact ih
    · rw [if_neg c] at ih ⊢; rw [Int32.add_zero]; exact ih
  · exact b_M_members_4 (br_t (by decide) H)
theorem cN_add {P Q : Nat → Prop} [DecidablePred P] [DecidablePred Q] : ∀ n, (∀ x, x < n → ¬ (P x ∧ Q x)) → cN (fun x => P x ∨ Q x) n = cN P n + cN Q n := by
  intro n
  induction n with
  | zero => intro _; rfl
  | succ n ih =>
    intro h
    rw [cN_s, cN_s, cN_s, ih (fun x hx => h x (by omega))]
    have hn := h n (by omega)
    by_cases p : P n
    · have q : ¬ Q n := fun q => hn ⟨p, q⟩
      rw [if_pos (Or.inl p), if_pos p, if_neg q]; omega
    · by_cases q : Q n
      · rw [if_pos (Or.inr q), if_neg p, if_pos q]; omega
      · rw [if_neg (fun z => by rcases z with z | z; exact p z; exact q z), if_neg p, if_neg q]
theorem pcI_or {a b : Int32} (h : ∀ i, i < 10 → ¬ (bt a i = true ∧ bt b i = true)) : pcI (a ||| b) = pcI a + pcI b := by
  unfold pcI
  rw [← cN_add 10 h]
  exact cN_congr (fun i _ => by rw [b_or, Bool.or_eq_true])
section
variable {S0 : xSt} {nd nb hd D : Nat} {hr : Nat → Nat} {x : Int32}
theorem bt_kv (hnb : nb ≤ 10) {dd t i : Nat} (hi : i < 32) : bt (kvS S0 nb x D hd dd t) i = decide (i < nb ∧ pB S0 x (oDay D hd t) dd i ∧ ¬ S0.1 10 i = 0) := b_mk (P := fun b => pB S0 x (oDay D hd t) dd b ∧ ¬ S0.1 10 b = 0) (by omega) hi
theorem bt_kp (hnb : nb ≤ 10) {f : Nat → Nat} {i : Nat} (hi : i < 32) : ∀ n, bt (oKp (kvS S0 nb x D hd) hr f n) i = true → i < nb ∧ ∃ j, j < n ∧ S0.1 9 i = nI (f j) := by
  intro n
  induction n with
  | zero => intro h; exact absurd h (by show ¬ bt 0 i = true; rw [b_0]; simp)
  | succ n ih =>
    intro h
    have h : bt (oKp (kvS S0 nb x D hd) hr f n ||| kvS S0 nb x D hd (f n) (oHrs hr f n + hr (f n))) i = true := h
    rw [b_or, Bool.or_eq_true] at h
    rcases h with h | h
    · obtain ⟨a, j, b, c⟩ := ih h; exact ⟨a, j, by omega, c⟩
    · rw [bt_kv hnb hi] at h
      have h := of_decide_eq_true h
      exact ⟨h.1, n, by omega, h.2.1.2.2.1⟩
abbrev gS (S0 : xSt) (nb : Nat) (x : Int32) (D hd : Nat) : Nat → Nat → Nat := fun d t => pcI (kvS S0 nb x D hd d t)
theorem pc_kp (hnb : nb ≤ 10) (hnd : nd ≤ 6) {f : Nat → Nat} : ∀ n, (∀ j, j < n → f j < nd ∧ oMem f j (f j) = false) → pcI (oKp (kvS S0 nb x D hd) hr f n) = oGs hr (gS S0 nb x D hd) f n := by
  intro n
  induction n with
  | zero =>
    intro _
    show pcI 0 = 0
    decide +kernel
  | succ n ih =>
    intro h
    show pcI (oKp (kvS S0 nb x D hd) hr f n ||| kvS S0 nb x D hd (f n) (oHrs hr f n + hr (f n))) = oGs hr (gS S0 nb x D hd) f n + pcI (kvS S0 nb x D hd (f n) (oHrs hr f n + hr (f n)))
    rw [pcI_or, ih (fun j hj => h j (by omega))]
    intro i hi z
    obtain ⟨-, j, hj, ej⟩ := bt_kp hnb (by omega) n z.1
    have z2 := z.2
    rw [bt_kv hnb (by omega)] at z2
    have z2 := (of_decide_eq_true z2).2.1.2.2.1
    rw [ej] at z2
    have a1 := (h j (by omega)).1
    have a2 := h n (by omega)
    have := (nEq (by omega) (by omega)).mp z2
    rw [oMem_i n j hj this] at a2
    exact absurd a2.2 (by simp)
/-- where the best one so far lies against the order under way -/
def oPos (b o : oT) (d : Nat) : Prop := (b.1 ≤ o.1 ∧ ∀ j, j < b.1 → b.2 j = o.2 j) ∨ (∃ k, k < b.1 ∧ k < o.1 ∧ (∀ j, j < k → b.2 j = o.2 j) ∧ b.2 k < o.2 k) ∨ (o.1 < b.1 ∧ (∀ j, j < o.1 → b.2 j = o.2 j) ∧ b.2 o.1 < d)
theorem oPos_1 {b o : oT} {d : Nat} (h : oPos b o d) : oPos b o (d + 1) := by
  rcases h with h | h | ⟨h1, h2, h3⟩
  · exact Or.inl h
  · exact Or.inr (Or.inl h)
  · exact Or.inr (Or.inr ⟨h1, h2, by omega⟩)
theorem oPos_p {b o : oT} {d : Nat} (h : oPos b o d) (d' : Nat) : oPos b (oPush o d) d' ∧ ((b.1 ≤ (oPush o d).1 ∧ ∀ j, j < b.1 → b.2 j = (oPush o d).2 j) ∨ (∃ k, k < b.1 ∧ k < (oPush o d).1 ∧ (∀ j, j < k → b.2 j = (oPush o d).2 j) ∧ b.2 k < (oPush o d).2 k)) := by
  have q : (b.1 ≤ (oPush o d).1 ∧ ∀ j, j < b.1 → b.2 j = (oPush o d).2 j) ∨ (∃ k, k < b.1 ∧ k < (oPush o d).1 ∧ (∀ j, j < k → b.2 j = (oPush o d).2 j) ∧ b.2 k < (oPush o d).2 k) := by
    rcases h with ⟨h1, h2⟩ | ⟨k, h1, h2, h3, h4⟩ | ⟨h1, h2, h3⟩
    · exact Or.inl ⟨by show b.1 ≤ o.1 + 1; omega, fun j hj => by rw [oP_b o d j (by omega)]; exact h2 j hj⟩
    · exact Or.inr ⟨k, h1, by show k < o.1 + 1; omega, fun j hj => by rw [oP_b o d j (by omega)]; exact h3 j hj, by rw [oP_b o d k h2]; exact h4⟩
    · exact Or.inr ⟨o.1, h1, by show o.1 < o.1 + 1; omega, fun j hj => by rw [oP_b o d j hj]; exact h2 j hj, by rw [oP_t]; exact h3⟩
  refine ⟨?_, q⟩
  rcases q with q | q
  · exact Or.inl q
  · exact Or.inr (Or.inl q)
theorem oPos_3 {b o : oT} {d nd : Nat} (h : oPos b (oPush o d) nd) : oPos b o (d + 1) := by
  rcases h with ⟨h1, h2⟩ | ⟨k, h1, h2, h3, h4⟩ | ⟨h1, h2, h3⟩
  · have h1 : b.1 ≤ o.1 + 1 := h1
    by_cases c : b.1 ≤ o.1
    · exact Or.inl ⟨c, fun j hj => by rw [h2 j hj, oP_b o d j (by omega)]⟩
    · refine Or.inr (Or.inr ⟨by omega, fun j hj => by rw [h2 j (by omega), oP_b o d j hj], ?_⟩)
      rw [h2 o.1 (by omega), oP_t]; omega
  · have h2 : k < o.1 + 1 := h2
    by_cases c : k < o.1
    · exact Or.inr (Or.inl ⟨k, h1, c, fun j hj => by rw [h3 j hj, oP_b o d j (by omega)], by rw [oP_b o d k c] at h4; exact h4⟩)
    · have : k = o.1 := by omega
      subst this
      rw [oP_t] at h4
      exact Or.inr (Or.inr ⟨h1, fun j hj => by rw [h3 j hj, oP_b o d j hj], by omega⟩)
  · have h1 : o.1 + 1 < b.1 := h1
    refine Or.inr (Or.inr ⟨by omega, fun j hj => by rw [h2 j (by show j < o.1 + 1; omega), oP_b o d j hj], ?_⟩)
    rw [h2 o.1 (by show o.1 < o.1 + 1; omega), oP_t]; omega
end
end
