section
variable {hc hm : xH} {d e : Nat} {S M : xSt}
/-- the reference's tape -/
def TM (t : Nat → Nat) (n : Nat) (M : xSt) : Prop := n ≤ 1600 ∧ (∀ j, j < n → t j < 256) ∧ (∀ j, j < n → M.1 1 j = nI (t j)) ∧ M.1 0 5 = nI n
def FTM (M M' : xSt) : Prop := (∀ c, c ≠ 0 → M'.1 c = M.1 c) ∧ (∀ c, c ≠ 0 → M'.2.1 c = M.2.1 c) ∧ M'.2.2 = M.2.2 ∧ ∀ j, j ≠ 4 → j ≠ 6 → j ≠ 7 → j ≠ 8 → M'.1 0 j = M.1 0 j
theorem FTM.rf (S : xSt) : FTM S S := ⟨fun _ _ => rfl, fun _ _ => rfl, rfl, fun _ _ _ _ _ => rfl⟩
theorem FTM.tr {S1 S2 S3 : xSt} (h : FTM S1 S2) (g : FTM S2 S3) : FTM S1 S3 := ⟨fun c a => (g.1 c a).trans (h.1 c a), fun c a => (g.2.1 c a).trans (h.2.1 c a), g.2.2.1.trans h.2.2.1, fun j a b c d => (g.2.2.2 j a b c d).trans (h.2.2.2 j a b c d)⟩
theorem FTM.put {j : Nat} {v : Int32} (h : j = 4 ∨ j = 6 ∨ j = 7 ∨ j = 8) : FTM M (x_putI M 0 j v) := ⟨fun c a => gI_ne _ _ _ a, fun _ _ => rfl, rfl, fun i a b c d => by rw [gI_same, up_n _ _ (by omega)]⟩
theorem FTM.putL {j : Nat} {v : Int64} : FTM M (x_putL M 0 j v) := ⟨fun _ _ => rfl, fun c a => if_neg a, rfl, fun _ _ _ _ _ => rfl⟩
theorem TM.fr {t : Nat → Nat} {n : Nat} {M' : xSt} (h : TM t n M) (f : FTM M M') : TM t n M' := by
  obtain ⟨a, b, c, g⟩ := h
  exact ⟨a, b, by rw [f.1 1 (by decide)]; exact c, by rw [f.2.2.2 5 (by decide) (by decide) (by decide) (by decide)]; exact g⟩
section
variable {t : Nat → Nat} {n q : Nat}
theorem here_y (h : TM t n M) (h4 : M.1 0 4 = nI q) {k : Nat} (hk : q + k < n) {K : Int32 → xSt → Prop} (H : K (nI (t (q + k))) M) : M_M_here hm e (nI k) M K := by
  obtain ⟨a, b, c, g⟩ := h
  have e1 : M.1 0 4 + nI k = nI (q + k) := by rw [h4, nI_add]
  refine m_M_here (fun _ => by rw [e1]; exact vIn (by omega) (by omega)) ?_
  rw [e1, g, if_neg (nI_ge hk (by omega)), nCl (by omega), c _ hk]; exact H
theorem here_n (h : TM t n M) (h4 : M.1 0 4 = nI q) {k : Nat} (hk : ¬ q + k < n) (hq : q + k ≤ 2000000) {K : Int32 → xSt → Prop} (H : K (-1) M) : M_M_here hm e (nI k) M K := by
  obtain ⟨a, b, c, g⟩ := h
  have e1 : M.1 0 4 + nI k = nI (q + k) := by rw [h4, nI_add]
  have le : nI n ≤ nI (q + k) := nI_le (by omega) (by omega)
  refine m_M_here (fun z => by rw [e1, g] at z; exact absurd le z) ?_
  rw [e1, g, if_pos le]; exact H
def hv (t : Nat → Nat) (n j : Nat) : Int32 := if j < n then nI (t j) else -1
theorem here_v (h : TM t n M) (h4 : M.1 0 4 = nI q) {k : Nat} (hq : q + k ≤ 2000000) {K : Int32 → xSt → Prop} (H : K (hv t n (q + k)) M) : M_M_here hm e (nI k) M K := by
  unfold hv at H
  by_cases c : q + k < n
  · rw [if_pos c] at H; exact here_y h h4 c H
  · rw [if_neg c] at H; exact here_n h h4 c hq H
theorem nI_b : ∀ b, b < 256 → ((¬ nI b < 97 ∧ ¬ 122 < nI b) ↔ (97 ≤ b ∧ b ≤ 122)) ∧ ((¬ nI b < 48 ∧ ¬ 57 < nI b) ↔ (48 ≤ b ∧ b ≤ 57)) ∧ (nI b = 32 ↔ b = 32) ∧ (nI b = 10 ↔ b = 10) := by decide +kernel
theorem let_v (h : TM t n M) (j : Nat) {K : Int32 → xSt → Prop} (H : K (if isLt t n j = true then 1 else 0) M) : M_M_isLetter hm e (hv t n j) M K := by
  refine m_M_isLetter ?_
  unfold hv
  by_cases c : j < n
  · rw [if_pos c]
    have := (nI_b (t j) (h.2.1 j c)).1
    by_cases y : 97 ≤ t j ∧ t j ≤ 122
    · rw [if_pos (decide_eq_true ⟨c, y⟩)] at H
      rw [bi_pos (this.mpr y)]; exact H
    · rw [if_neg (fun z => y (of_decide_eq_true z).2)] at H
      rw [bi_neg (fun z => y (this.mp z))]; exact H
  · rw [if_neg c, bi_neg (by decide)]
    rw [if_neg (fun z => c (of_decide_eq_true z).1)] at H; exact H
theorem dig_v (h : TM t n M) (j : Nat) {K : Int32 → xSt → Prop} (H : K (if isDg t n j = true then 1 else 0) M) : M_M_isDigit hm e (hv t n j) M K := by
  refine m_M_isDigit ?_
  unfold hv
  by_cases c : j < n
  · rw [if_pos c]
    have := (nI_b (t j) (h.2.1 j c)).2.1
    by_cases y : 48 ≤ t j ∧ t j ≤ 57
    · rw [if_pos (decide_eq_true ⟨c, y⟩)] at H
      rw [bi_pos (this.mpr y)]; exact H
    · rw [if_neg (fun z => y (of_decide_eq_true z).2)] at H
      rw [bi_neg (fun z => y (this.mp z))]; exact H
  · rw [if_neg c, bi_neg (by decide)]
    rw [if_neg (fun z => c (of_decide_eq_true z).1)] at H; exact H
theorem r_ws : ∀ m p, n - p ≤ m → ∀ M, TM t n M → p ≤ n → M.1 0 4 = nI p → ∃ M', (∀ K, B_M_token_0 hm e M' K → B_M_token_0 hm e M K) ∧ FTM M M' ∧ M'.1 0 4 = nI (p + (sg t (isWs t n) m p).length) := by
  intro m
  induction m with
  | zero => intro p _ M _ _ h4; exact ⟨M, fun K H => H, FTM.rf M, h4⟩
  | succ m ih =>
    intro p hp M hM hpn h4
    rw [sg]
    by_cases y : isWs t n p = true
    · obtain ⟨y1, y2⟩ := of_decide_eq_true y
      have sp := (nI_b (t p) (hM.2.1 p y1)).2.2
      have f1 : FTM M (x_putI M 0 4 (M.1 0 4 + 1)) := FTM.put (by omega)
      obtain ⟨M', a, b, c⟩ := ih (p + 1) (by omega) _ (hM.fr f1) (by omega) (by rw [gI_same, up_s, h4, nI_1])
      refine ⟨M', fun K H => b_M_token_0 ?_, f1.tr b, ?_⟩
      · show M_M_here hm e (nI 0) M _
        refine here_y hM h4 y1 ?_
        rw [Nat.add_zero]
        by_cases z : t p = 32
        · exact br_t (sp.1.mpr z) (b_M_token_20 (a K H))
        · refine br_f (fun w => z (sp.1.mp w)) ?_
          show M_M_here hm e (nI 0) M _
          refine here_y hM h4 y1 ?_
          rw [Nat.add_zero]
          rcases y2 with w | w
          · exact absurd w z
          · exact br_nt (sp.2.mpr w) (b_M_token_20 (a K H))
      · rw [if_pos y, c]
        show nI _ = nI (p + ((sg t (isWs t n) m (p + 1)).length + 1))
        exact congrArg nI (by omega)
    · refine ⟨M, fun K H => H, FTM.rf M, ?_⟩
      rw [if_neg y]; exact h4
abbrev s8 : Int64 → Nat → Int64 := fun a c => (a <<< ((8 : Int32).toInt64 &&& 63)) ||| (nI c).toInt64
def L8 (l : List Nat) : Int64 := l.foldl s8 0
theorem r_let : ∀ m k, n - (q + k) ≤ m → ∀ M, TM t n M → q + k ≤ n → M.1 0 4 = nI q → ∃ M', (∀ K, B_M_token_131 hm e (nI (k + (sg t (isLt t n) m (q + k)).length)) (if k + (sg t (isLt t n) m (q + k)).length ≤ 8 then 1 else 3) M' K → B_M_token_78 hm e (nI k) M K) ∧ FTM M M' ∧ M'.1 = M.1 ∧ (k + (sg t (isLt t n) m (q + k)).length ≤ 8 → M'.2.1 0 9 = (sg t (isLt t n) m (q + k)).foldl s8 (M.2.1 0 9)) := by
  intro m
  induction m with
  | zero =>
    intro k hk M hM hq h4
    have hn := hM.1
    refine ⟨M, fun K H => b_M_token_78 (here_v hM h4 (by omega) (let_v hM (q + k) ?_)), FTM.rf M, rfl, fun _ => rfl⟩
    rw [if_neg (fun z => by have := (of_decide_eq_true z).1; omega)]
    refine br_t rfl ?_
    have H : B_M_token_131 hm e (nI k) (if k ≤ 8 then 1 else 3) M K := H
    by_cases c : k ≤ 8
    · rw [if_pos c] at H; exact br_t (nI_le (b := 8) c (by omega)) H
    · rw [if_neg c] at H; exact br_f (nI_ge (a := 8) (by omega) (by omega)) H
  | succ m ih =>
    intro k hk M hM hq h4
    have hn := hM.1
    rw [sg]
    by_cases y : isLt t n (q + k) = true
    · obtain ⟨y1, y2⟩ := of_decide_eq_true y
      rw [if_pos y]
      have el : k + (t (q + k) :: sg t (isLt t n) m (q + k + 1)).length = k + 1 + (sg t (isLt t n) m (q + (k + 1))).length := by
        show k + ((sg t (isLt t n) m (q + k + 1)).length + 1) = _
        rw [show q + (k + 1) = q + k + 1 by omega]; omega
      rw [el]
      by_cases c : 8 ≤ k
      · obtain ⟨M', a, b, e1, e2⟩ := ih (k + 1) (by omega) M hM (by omega) h4
        refine ⟨M', fun K H => b_M_token_78 (here_v hM h4 (by omega) (let_v hM (q + k) ?_)), b, e1, fun z => absurd z (by omega)⟩
        rw [if_pos y]
        refine br_f (by decide) (br_t (nI_le (a := 8) c (by omega)) (b_M_token_113 ?_))
        rw [nI_1]; exact a K H
      · have f1 : FTM M (x_putL M 0 9 (s8 (M.2.1 0 9) (t (q + k)))) := FTM.putL
        obtain ⟨M', a, b, e1, e2⟩ := ih (k + 1) (by omega) _ (hM.fr f1) (by omega) h4
        refine ⟨M', fun K H => b_M_token_78 (here_v hM h4 (by omega) (let_v hM (q + k) ?_)), f1.tr b, e1, fun z => ?_⟩
        · rw [if_pos y]
          refine br_f (by decide) (br_f (nI_ge (b := 8) (by omega) (by omega)) (here_y hM h4 y1 (b_M_token_113 ?_)))
          rw [nI_1]; exact a K H
        · rw [e2 z, show q + (k + 1) = q + k + 1 by omega]
          rfl
    · rw [if_neg y]
      refine ⟨M, fun K H => b_M_token_78 (here_v hM h4 (by omega) (let_v hM (q + k) ?_)), FTM.rf M, rfl, fun _ => rfl⟩
      rw [if_neg y]
      refine br_t rfl ?_
      have H : B_M_token_131 hm e (nI k) (if k ≤ 8 then 1 else 3) M K := H
      by_cases c : k ≤ 8
      · rw [if_pos c] at H; exact br_t (nI_le (b := 8) c (by omega)) H
      · rw [if_neg c] at H; exact br_f (nI_ge (a := 8) (by omega) (by omega)) H
abbrev t10 : Int32 → Nat → Int32 := fun a c => ((10 * a) + nI c) - 48
theorem r_dig : ∀ m k, n - (q + k) ≤ m → ∀ M, TM t n M → q + k ≤ n → M.1 0 4 = nI q → ∃ M', (∀ K, B_M_token_208 hm e (nI (k + (sg t (isDg t n) m (q + k)).length)) (if 4 < k + (sg t (isDg t n) m (q + k)).length ∨ isLt t n (q + (k + (sg t (isDg t n) m (q + k)).length)) = true then 3 else 2) M' K → B_M_token_144 hm e (nI k) M K) ∧ FTM M M' ∧ M'.2.1 = M.2.1 ∧ M'.1 0 4 = nI q ∧ M'.1 0 7 = M.1 0 7 ∧ (k + (sg t (isDg t n) m (q + k)).length ≤ 4 → M'.1 0 8 = (sg t (isDg t n) m (q + k)).foldl t10 (M.1 0 8)) := by
  have stop : ∀ k M, TM t n M → q + k ≤ n → M.1 0 4 = nI q → ¬ isDg t n (q + k) = true → ∀ K, B_M_token_208 hm e (nI k) (if 4 < k ∨ isLt t n (q + k) = true then 3 else 2) M K → B_M_token_144 hm e (nI k) M K := by
    intro k M hM hq h4 y K H
    have hn := hM.1
    refine b_M_token_144 (here_v hM h4 (by omega) (dig_v hM (q + k) ?_))
    rw [if_neg y]
    refine br_t rfl ?_
    by_cases c : 4 < k
    · rw [if_pos (Or.inl c)] at H
      exact br_t ((nLt (a := 4) (by omega) (by omega)).mpr c) (b_M_token_203 H)
    · refine br_f (fun z => c ((nLt (a := 4) (by omega) (by omega)).mp z)) (here_v hM h4 (by omega) (let_v hM (q + k) ?_))
      by_cases z : isLt t n (q + k) = true
      · rw [if_pos (Or.inr z)] at H
        rw [if_pos z]; exact br_f (by decide) (b_M_token_203 H)
      · rw [if_neg (fun w => by rcases w with w | w; exact c w; exact z w)] at H
        rw [if_neg z]; exact br_t rfl H
  intro m
  induction m with
  | zero =>
    intro k hk M hM hq h4
    have hn := hM.1
    exact ⟨M, fun K H => stop k M hM hq h4 (fun z => by have := (of_decide_eq_true z).1; omega) K H, FTM.rf M, rfl, h4, rfl, fun _ => rfl⟩
  | succ m ih =>
    intro k hk M hM hq h4
    have hn := hM.1
    rw [sg]
    by_cases y : isDg t n (q + k) = true
    · obtain ⟨y1, y2⟩ := of_decide_eq_true y
      rw [if_pos y]
      have el : k + (t (q + k) :: sg t (isDg t n) m (q + k + 1)).length = k + 1 + (sg t (isDg t n) m (q + (k + 1))).length := by
        show k + ((sg t (isDg t n) m (q + k + 1)).length + 1) = _
        rw [show q + (k + 1) = q + k + 1 by omega]; omega
      rw [el]
      by_cases c : 4 ≤ k
      · obtain ⟨M', a, b, e1, e2, e3, e4⟩ := ih (k + 1) (by omega) M hM (by omega) h4
        refine ⟨M', fun K H => b_M_token_144 (here_v hM h4 (by omega) (dig_v hM (q + k) ?_)), b, e1, e2, e3, fun z => absurd z (by omega)⟩
        rw [if_pos y]
        refine br_f (by decide) (br_t (nI_le (a := 4) c (by omega)) (b_M_token_180 ?_))
        rw [nI_1]; exact a K H
      · have f1 : FTM M (x_putI M 0 8 (t10 (M.1 0 8) (t (q + k)))) := FTM.put (by omega)
        obtain ⟨M', a, b, e1, e2, e3, e4⟩ := ih (k + 1) (by omega) _ (hM.fr f1) (by omega) h4
        refine ⟨M', fun K H => b_M_token_144 (here_v hM h4 (by omega) (dig_v hM (q + k) ?_)), f1.tr b, e1, e2, e3, fun z => ?_⟩
        · rw [if_pos y]
          refine br_f (by decide) (br_f (nI_ge (b := 4) (by omega) (by omega)) (here_y hM h4 y1 (b_M_token_180 ?_)))
          rw [nI_1]; exact a K H
        · rw [e4 z, show q + (k + 1) = q + k + 1 by omega]
          rfl
    · rw [if_neg y]
      exact ⟨M, fun K H => stop k M hM hq h4 y K H, FTM.rf M, rfl, h4, rfl, fun _ => rfl⟩
end
end
