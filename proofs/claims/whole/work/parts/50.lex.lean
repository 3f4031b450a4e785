section
variable {hc hm : xH} {d e : Nat} {S M : xSt}
def sb (b : Nat) : Int32 := (nI b).toInt8.toInt32
-- the run of P from p, as it is written
def sg (t : Nat → Nat) (P : Nat → Bool) : Nat → Nat → List Nat
  | 0, _ => []
  | m + 1, p => if P p = true then t p :: sg t P m (p + 1) else []
abbrev isWs (t : Nat → Nat) (n : Nat) : Nat → Bool := fun j => decide (j < n ∧ (t j = 32 ∨ t j = 10))
abbrev isLt (t : Nat → Nat) (n : Nat) : Nat → Bool := fun j => decide (j < n ∧ 97 ≤ t j ∧ t j ≤ 122)
abbrev isDg (t : Nat → Nat) (n : Nat) : Nat → Bool := fun j => decide (j < n ∧ 48 ≤ t j ∧ t j ≤ 57)
theorem sg_end {t : Nat → Nat} {P : Nat → Bool} {n : Nat} (hP : ∀ j, P j = true → j < n) : ∀ m p, n - p ≤ m → P (p + (sg t P m p).length) = false ∧ (p ≤ n → p + (sg t P m p).length ≤ n) := by
  intro m
  induction m with
  | zero =>
    intro p hp
    refine ⟨?_, fun h => h⟩
    cases q : P (p + (sg t P 0 p).length) with
    | false => rfl
    | true => have : p < n := hP _ q; omega
  | succ m ih =>
    intro p hp
    rw [sg]
    by_cases c : P p = true
    · rw [if_pos c]
      have := hP p c
      have h := ih (p + 1) (by omega)
      show P (p + ((sg t P m (p + 1)).length + 1)) = false ∧ (p ≤ n → p + ((sg t P m (p + 1)).length + 1) ≤ n)
      rw [show p + ((sg t P m (p + 1)).length + 1) = p + 1 + (sg t P m (p + 1)).length by omega]
      exact ⟨h.1, fun _ => h.2 (by omega)⟩
    · rw [if_neg c]; exact ⟨by simpa using c, fun h => h⟩
theorem sg_all {t : Nat → Nat} {P : Nat → Bool} {Q : Nat → Prop} (h : ∀ j, P j = true → Q (t j)) : ∀ m p, ∀ c, c ∈ sg t P m p → Q c := by
  intro m
  induction m with
  | zero => intro p c hc; exact absurd hc (by simp [sg])
  | succ m ih =>
    intro p c hc
    rw [sg] at hc
    by_cases y : P p = true
    · rw [if_pos y] at hc
      rcases List.mem_cons.mp hc with z | z
      · rw [z]; exact h p y
      · exact ih _ c z
    · rw [if_neg y] at hc; exact absurd hc (by simp)
theorem sb_ws : ∀ b, b < 256 → ((sb b = 32 ↔ b = 32) ∧ (sb b = 10 ↔ b = 10)) := by decide +kernel
theorem sb_lt : ∀ b, b < 256 → ((¬ sb b < 97 ∧ ¬ 122 < sb b) ↔ (97 ≤ b ∧ b ≤ 122)) := by decide +kernel
theorem sb_digit : ∀ b, b < 256 → ((¬ sb b < 48 ∧ ¬ 57 < sb b) ↔ (48 ≤ b ∧ b ≤ 57)) := by decide +kernel
theorem sb_id : ∀ b, b < 128 → sb b = nI b := by decide +kernel
theorem sb_and : ∀ b, b < 256 → sb b &&& 255 = nI b := by decide +kernel
abbrev sgL : List Nat := [59, 40, 41, 60, 62, 61, 43, 45, 42, 47, 37]
theorem sb_sg : ∀ b, b < 256 → (zs_index1 (((sb b &&& 255)).toUInt32 % 65536).toInt32 < 0 ↔ b ∉ sgL) := by decide +kernel
/-- the class's tape -/
def TC (t : Nat → Nat) (n : Nat) (S : xSt) : Prop := n ≤ 1600 ∧ (∀ j, j < n → t j < 256) ∧ (∀ j, j < n → S.1 1 j = sb (t j)) ∧ S.2.2 19 = 1 ∧ S.1 19 1 = nI n
/-- what reading a token changes -/
def FT (S S' : xSt) : Prop := (∀ c, c ≠ 19 → S'.1 c = S.1 c) ∧ (∀ c, c ≠ 19 → S'.2.1 c = S.2.1 c) ∧ S'.2.2 = S.2.2 ∧ ∀ j, j = 1 ∨ 7 ≤ j → S'.1 19 j = S.1 19 j
theorem FT.rf (S : xSt) : FT S S := ⟨fun _ _ => rfl, fun _ _ => rfl, rfl, fun _ _ => rfl⟩
theorem FT.tr {S1 S2 S3 : xSt} (h : FT S1 S2) (g : FT S2 S3) : FT S1 S3 := ⟨fun c a => (g.1 c a).trans (h.1 c a), fun c a => (g.2.1 c a).trans (h.2.1 c a), g.2.2.1.trans h.2.2.1, fun j a => (g.2.2.2 j a).trans (h.2.2.2 j a)⟩
theorem FT.put {j : Nat} {v : Int32} (h : 1 < j ∧ j < 7) : FT S (x_putI S 19 j v) := ⟨fun c a => gI_ne _ _ _ a, fun _ _ => rfl, rfl, fun i hi => by rw [gI_same, up_n _ _ (by omega)]⟩
theorem FT.putL {j : Nat} {v : Int64} : FT S (x_putL S 19 j v) := ⟨fun _ _ => rfl, fun c a => if_neg a, rfl, fun _ _ => rfl⟩
theorem TC.fr {t : Nat → Nat} {n : Nat} {S' : xSt} (h : TC t n S) (f : FT S S') : TC t n S' := by
  obtain ⟨a, b, c, e, g⟩ := h
  exact ⟨a, b, by rw [f.1 1 (by decide)]; exact c, by rw [f.2.2.1]; exact e, by rw [f.2.2.2 1 (Or.inl rfl)]; exact g⟩
theorem c_ws {t : Nat → Nat} {n : Nat} : ∀ m p, n - p ≤ m → ∀ S, TC t n S → p ≤ n → S.1 19 2 = nI p → ∃ S', (∀ K, B_Tk_advance_52 hc d S' K → B_Tk_advance_0 hc d S K) ∧ FT S S' ∧ S'.1 19 2 = nI (p + (sg t (isWs t n) m p).length) := by
  intro m
  induction m with
  | zero =>
    intro p hp S hS hpn h2
    have hn := hS.1
    refine ⟨S, fun K H => b_Tk_advance_0 (br_t (by rw [hS.2.2.2.2, h2]; exact nI_le (by omega) (by omega)) H), FT.rf S, h2⟩
  | succ m ih =>
    intro p hp S hS hpn h2
    obtain ⟨hn, h256, ht, hr, hl⟩ := hS
    rw [sg]
    by_cases c : p < n
    · have v : vp_in (S.1 19 2) 1600 := by rw [h2]; exact vIn (by omega) (by omega)
      have ev : S.1 1 (S.1 19 2).toNatClampNeg = sb (t p) := by rw [h2, nCl (by omega), ht p c]
      have sp := sb_ws (t p) (h256 p c)
      have go : isWs t n p = true → ∃ S', (∀ K, B_Tk_advance_52 hc d S' K → B_Tk_advance_39 hc d S K) ∧ FT S S' ∧ S'.1 19 2 = nI (p + (if isWs t n p = true then t p :: sg t (isWs t n) m (p + 1) else []).length) := by
        intro y
        have f1 : FT S (x_putI S 19 2 (S.1 19 2 + 1)) := FT.put (by omega)
        have hS : TC t n S := ⟨hn, h256, ht, hr, hl⟩
        obtain ⟨S', a, b, e⟩ := ih (p + 1) (by omega) _ (hS.fr f1) (by omega) (by rw [gI_same, up_s, h2, nI_1])
        refine ⟨S', fun K H => b_Tk_advance_39 (a K H), f1.tr b, ?_⟩
        rw [if_pos y, e]
        show nI _ = nI (p + ((sg t (isWs t n) m (p + 1)).length + 1))
        exact congrArg nI (by omega)
      by_cases y : isWs t n p = true
      · obtain ⟨S', a, b, e⟩ := go y
        refine ⟨S', fun K H => b_Tk_advance_0 (br_f (by rw [hl, h2]; exact nI_ge c (by omega)) ⟨hr, v, ?_⟩), b, e⟩
        rw [ev]
        have y2 := (of_decide_eq_true y).2
        by_cases z : t p = 32
        · exact br_t (sp.1.mpr z) (a K H)
        · refine br_f (fun w => z (sp.1.mp w)) ⟨hr, v, br_nt (sp.2.mpr ?_) (a K H)⟩
          rcases y2 with w | w
          · exact absurd w z
          · exact w
      · refine ⟨S, fun K H => b_Tk_advance_0 (br_f (by rw [hl, h2]; exact nI_ge c (by omega)) ⟨hr, v, ?_⟩), FT.rf S, ?_⟩
        · rw [ev]
          have y1 : ¬ t p = 32 := fun z => y (decide_eq_true ⟨c, Or.inl z⟩)
          have y2 : ¬ t p = 10 := fun z => y (decide_eq_true ⟨c, Or.inr z⟩)
          exact br_f (fun w => y1 (sp.1.mp w)) ⟨hr, v, br_nf (fun w => y2 (sp.2.mp w)) H⟩
        · rw [if_neg y]; exact h2
    · have y : ¬ isWs t n p = true := fun z => c (of_decide_eq_true z).1
      refine ⟨S, fun K H => b_Tk_advance_0 (br_t (by rw [hl, h2]; exact nI_le (by omega) (by omega)) H), FT.rf S, ?_⟩
      rw [if_neg y]; exact h2
abbrev s5 : Int64 → Nat → Int64 := fun a c => a * 32 + ((nI c - 97) + 1).toInt64
def L5 (l : List Nat) : Int64 := l.foldl s5 0
theorem c_let {t : Nat → Nat} {n : Nat} : ∀ m p, n - p ≤ m → ∀ S, TC t n S → p ≤ n → S.1 19 2 = nI p → ∃ S', (∀ K, B_Tk_takeLetters_85 hc d S' K → B_Tk_takeLetters_5 hc d S K) ∧ FT S S' ∧ S'.1 19 2 = nI (p + (sg t (isLt t n) m p).length) ∧ S'.1 19 3 = S.1 19 3 ∧ S'.2.1 19 6 = (sg t (isLt t n) m p).foldl s5 (S.2.1 19 6) := by
  intro m
  induction m with
  | zero =>
    intro p hp S hS hpn h2
    have hn := hS.1
    exact ⟨S, fun K H => b_Tk_takeLetters_5 (br_t (by rw [hS.2.2.2.2, h2]; exact nI_le (by omega) (by omega)) H), FT.rf S, h2, rfl, rfl⟩
  | succ m ih =>
    intro p hp S hS hpn h2
    have hS0 := hS
    obtain ⟨hn, h256, ht, hr, hl⟩ := hS
    rw [sg]
    by_cases c : p < n
    · have v : vp_in (S.1 19 2) 1600 := by rw [h2]; exact vIn (by omega) (by omega)
      have ev : S.1 1 (S.1 19 2).toNatClampNeg = sb (t p) := by rw [h2, nCl (by omega), ht p c]
      have sp := sb_lt (t p) (h256 p c)
      by_cases y : isLt t n p = true
      · have y2 := (of_decide_eq_true y).2
        obtain ⟨z1, z2⟩ := sp.mpr y2
        have f1 : FT S (x_putI (x_putL S 19 6 ((S.2.1 19 6 * 32) + (((nI (t p)) - 97) + 1).toInt64)) 19 2 (S.1 19 2 + 1)) := FT.putL.tr (FT.put (by omega))
        obtain ⟨S', a, b, e1, e2, e3⟩ := ih (p + 1) (by omega) _ (hS0.fr f1) (by omega) (by rw [gI_same, up_s, h2, nI_1])
        refine ⟨S', fun K H => b_Tk_takeLetters_5 (br_f (by rw [hl, h2]; exact nI_ge c (by omega)) ⟨hr, v, ?_⟩), f1.tr b, ?_, ?_, ?_⟩
        · rw [ev]
          refine br_f z1 ⟨hr, v, br_f z2 ⟨hr, v, ?_⟩⟩
          rw [sb_id (t p) (by omega)]
          exact a K H
        · rw [if_pos y, e1]
          show nI _ = nI (p + ((sg t (isLt t n) m (p + 1)).length + 1))
          exact congrArg nI (by omega)
        · rw [e2]; rfl
        · rw [if_pos y, e3]; rfl
      · refine ⟨S, fun K H => b_Tk_takeLetters_5 (br_f (by rw [hl, h2]; exact nI_ge c (by omega)) ⟨hr, v, ?_⟩), FT.rf S, ?_, rfl, ?_⟩
        · rw [ev]
          by_cases z : sb (t p) < 97
          · exact br_t z H
          · exact br_f z ⟨hr, v, br_t (Decidable.byContradiction (fun w => y (decide_eq_true ⟨c, sp.mp ⟨z, w⟩⟩))) H⟩
        · rw [if_neg y]; exact h2
        · rw [if_neg y]; rfl
    · have y : ¬ isLt t n p = true := fun z => c (of_decide_eq_true z).1
      refine ⟨S, fun K H => b_Tk_takeLetters_5 (br_t (by rw [hl, h2]; exact nI_le (by omega) (by omega)) H), FT.rf S, ?_, rfl, ?_⟩
      · rw [if_neg y]; exact h2
      · rw [if_neg y]; rfl
abbrev s10 : Int32 → Nat → Int32 := fun a c => a * 10 + (nI c - 48)
theorem c_dig {t : Nat → Nat} {n : Nat} : ∀ m p, n - p ≤ m → ∀ S, TC t n S → p ≤ n → S.1 19 2 = nI p → ∃ S', (∀ K, B_Tk_takeDigits_81 hc d S' K → B_Tk_takeDigits_5 hc d S K) ∧ FT S S' ∧ S'.1 19 2 = nI (p + (sg t (isDg t n) m p).length) ∧ S'.1 19 3 = S.1 19 3 ∧ S'.1 19 5 = (sg t (isDg t n) m p).foldl s10 (S.1 19 5) := by
  intro m
  induction m with
  | zero =>
    intro p hp S hS hpn h2
    have hn := hS.1
    exact ⟨S, fun K H => b_Tk_takeDigits_5 (br_t (by rw [hS.2.2.2.2, h2]; exact nI_le (by omega) (by omega)) H), FT.rf S, h2, rfl, rfl⟩
  | succ m ih =>
    intro p hp S hS hpn h2
    have hS0 := hS
    obtain ⟨hn, h256, ht, hr, hl⟩ := hS
    rw [sg]
    by_cases c : p < n
    · have v : vp_in (S.1 19 2) 1600 := by rw [h2]; exact vIn (by omega) (by omega)
      have ev : S.1 1 (S.1 19 2).toNatClampNeg = sb (t p) := by rw [h2, nCl (by omega), ht p c]
      have sp := sb_digit (t p) (h256 p c)
      by_cases y : isDg t n p = true
      · have y2 := (of_decide_eq_true y).2
        obtain ⟨z1, z2⟩ := sp.mpr y2
        have f1 : FT S (x_putI (x_putI S 19 5 ((S.1 19 5 * 10) + (nI (t p) - 48))) 19 2 (S.1 19 2 + 1)) := (FT.put (by omega)).tr (FT.put (by omega))
        obtain ⟨S', a, b, e1, e2, e3⟩ := ih (p + 1) (by omega) _ (hS0.fr f1) (by omega) (by rw [gI_same, up_s, h2, nI_1])
        refine ⟨S', fun K H => b_Tk_takeDigits_5 (br_f (by rw [hl, h2]; exact nI_ge c (by omega)) ⟨hr, v, ?_⟩), f1.tr b, ?_, ?_, ?_⟩
        · rw [ev]
          refine br_f z1 ⟨hr, v, br_f z2 ⟨hr, v, ?_⟩⟩
          rw [sb_id (t p) (by omega)]
          exact a K H
        · rw [if_pos y, e1]
          show nI _ = nI (p + ((sg t (isDg t n) m (p + 1)).length + 1))
          exact congrArg nI (by omega)
        · rw [e2]; rfl
        · rw [if_pos y, e3]; rfl
      · refine ⟨S, fun K H => b_Tk_takeDigits_5 (br_f (by rw [hl, h2]; exact nI_ge c (by omega)) ⟨hr, v, ?_⟩), FT.rf S, ?_, rfl, ?_⟩
        · rw [ev]
          by_cases z : sb (t p) < 48
          · exact br_t z H
          · exact br_f z ⟨hr, v, br_t (Decidable.byContradiction (fun w => y (decide_eq_true ⟨c, sp.mp ⟨z, w⟩⟩))) H⟩
        · rw [if_neg y]; exact h2
        · rw [if_neg y]; rfl
    · have y : ¬ isDg t n p = true := fun z => c (of_decide_eq_true z).1
      refine ⟨S, fun K H => b_Tk_takeDigits_5 (br_t (by rw [hl, h2]; exact nI_le (by omega) (by omega)) H), FT.rf S, ?_, rfl, ?_⟩
      · rw [if_neg y]; exact h2
      · rw [if_neg y]; rfl
-- words of its own
def wq (x0 : Int64) : List Nat → Int32 → Int64 → Int32
  | [], _, _ => -1
  | c :: t, num, x3 => if nI c = 32 then (if x3 = x0 then num else wq x0 t (num + 1) 0) else wq x0 t num (x3 * 32 + ((nI c - 97) + 1).toInt64)
theorem c_wq {x0 : Int64} {K : Int32 → xSt → Prop} : ∀ (l : List Nat) (i : Nat) (num : Int32) (x3 : Int64), zs_b0.drop i = l → i ≤ 114 → K (wq x0 l num x3) S → B_Tk_wordNumber_7 hc d x0 num x3 (nI i) S K := by
  have len : zs_b0.length = 114 := by decide +kernel
  intro l
  induction l with
  | nil =>
    intro i num x3 hd' hi H
    have : zs_b0.length ≤ i := by
      rcases Nat.lt_or_ge i zs_b0.length with h | h
      · have := congrArg List.length hd'
        rw [List.length_drop] at this
        simp at this; omega
      · exact h
    exact b_Tk_wordNumber_7 (br_t (nI_le (a := 114) (by omega) (by omega)) H)
  | cons c l ih =>
    intro i num x3 hd' hi H
    have hl : i < zs_b0.length := by
      have := congrArg List.length hd'
      rw [List.length_drop] at this
      simp at this; omega
    have hc' : zs_b0.getD i 0 = c := by
      rw [List.getD_eq_getElem?_getD, List.getElem?_eq_getElem hl, Option.getD_some]
      have := List.drop_eq_getElem_cons hl
      rw [hd'] at this
      injection this with h1 h2
      exact h1.symm
    have hd2 : zs_b0.drop (i + 1) = l := by
      have := List.drop_eq_getElem_cons hl
      rw [hd'] at this
      injection this with h1 h2
      exact h2.symm
    have ech : zs_char0 (nI i) = nI c := by unfold zs_char0; rw [nCl (by omega), hc']
    refine b_Tk_wordNumber_7 (br_f (nI_ge (b := 114) (by omega) (by omega)) ⟨vIn (n := 114) (by omega) (by omega), ?_⟩)
    rw [ech]
    rw [wq] at H
    by_cases z : nI c = 32
    · rw [if_pos z] at H
      refine br_t z ?_
      by_cases y : x3 = x0
      · rw [if_pos y] at H; exact br_nt y H
      · rw [if_neg y] at H
        refine br_nf y (b_Tk_wordNumber_64 ?_)
        rw [nI_1]; exact ih (i + 1) _ _ hd2 (by omega) H
    · rw [if_neg z] at H
      refine br_f z (b_Tk_wordNumber_64 ?_)
      rw [nI_1]; exact ih (i + 1) _ _ hd2 (by omega) H
def kws : List (List Nat) := [[109, 97, 110], [99, 111, 108, 111, 117, 114], [104, 111, 108, 101, 115], [108, 101, 102, 116], [100, 101, 101, 100], [104, 111, 117, 114, 115], [98, 117, 116, 116, 111, 110], [111, 110], [98, 121], [100, 111, 101, 115], [110, 101, 118, 101, 114], [117, 110, 116, 105, 108], [116, 104, 114, 101, 97, 100], [97, 102, 116, 101, 114], [102, 114, 105, 101, 110, 100], [119, 101, 97, 114], [100, 97, 121], [115, 116, 111, 114, 109], [100, 114, 97, 119], [111, 114], [97, 110, 100], [110, 111, 116]]
def wnF (x : Int64) : Nat → List (List Nat) → Int32
  | _, [] => -1
  | k, w :: t => if L5 w = x then nI k else wnF x (k + 1) t
theorem wq_s {x0 : Int64} : ∀ (w r : List Nat) (num : Int32) (a : Int64), (∀ c, c ∈ w → 97 ≤ c ∧ c ≤ 122) → wq x0 (w ++ 32 :: r) num a = if w.foldl s5 a = x0 then num else wq x0 r (num + 1) 0 := by
  intro w
  induction w with
  | nil => intro r num a _; rfl
  | cons c w ih =>
    intro r num a h
    have hc := h c (by simp)
    have : ¬ nI c = 32 := fun z => by have := (nEq (b := 32) (by omega) (by omega)).mp z; omega
    show wq x0 (c :: (w ++ 32 :: r)) num a = _
    rw [wq, if_neg this, ih r num _ (fun c' h' => h c' (by simp [h']))]
    rfl
theorem wq_w {x0 : Int64} : ∀ (ws : List (List Nat)) (k : Nat), (∀ w, w ∈ ws → ∀ c, c ∈ w → 97 ≤ c ∧ c ≤ 122) → wq x0 (ws.flatMap (fun w => w ++ [32])) (nI k) 0 = wnF x0 k ws := by
  intro ws
  induction ws with
  | nil => intro k _; rfl
  | cons w ws ih =>
    intro k h
    rw [List.flatMap_cons, List.append_assoc]
    show wq x0 (w ++ 32 :: ws.flatMap (fun w => w ++ [32])) (nI k) 0 = _
    rw [wq_s w _ _ _ (h w (by simp)), wnF, nI_1, ih (k + 1) (fun w' h' => h w' (by simp [h']))]
    rfl
theorem m_wordN {x0 : Int64} {K : Int32 → xSt → Prop} (H : K (wnF x0 0 kws) S) : M_Tk_wordNumber hc d x0 S K := by
  refine e_Tk_wordNumber ?_
  have e1 : kws.flatMap (fun w => w ++ [32]) = zs_b0 := by decide +kernel
  have e2 := wq_w (x0 := x0) kws 0 (by decide)
  rw [e1] at e2
  refine c_wq zs_b0 0 0 0 rfl (by omega) ?_
  have e3 : wq x0 zs_b0 0 0 = wnF x0 0 kws := e2
  rw [e3]; exact H
end
