section
abbrev oT : Type := Nat × (Nat → Nat)
def oPush (o : oT) (d : Nat) : oT := (o.1 + 1, fun j => if j = o.1 then d else o.2 j)
def oMem (f : Nat → Nat) : Nat → Nat → Bool
  | 0, _ => false
  | n + 1, d => oMem f n d || decide (f n = d)
def oHrs (hr f : Nat → Nat) : Nat → Nat
  | 0 => 0
  | n + 1 => oHrs hr f n + hr (f n)
def oGs (hr : Nat → Nat) (g : Nat → Nat → Nat) (f : Nat → Nat) : Nat → Nat
  | 0 => 0
  | n + 1 => oGs hr g f n + g (f n) (oHrs hr f n + hr (f n))
theorem oMem_c {f f' : Nat → Nat} : ∀ n d, (∀ j, j < n → f j = f' j) → oMem f n d = oMem f' n d := by
  intro n
  induction n with
  | zero => intro _ _; rfl
  | succ n ih => intro d h; show (oMem f n d || decide (f n = d)) = (oMem f' n d || decide (f' n = d)); rw [ih d (fun j hj => h j (by omega)), h n (by omega)]
theorem oHrs_c {hr f f' : Nat → Nat} : ∀ n, (∀ j, j < n → f j = f' j) → oHrs hr f n = oHrs hr f' n := by
  intro n
  induction n with
  | zero => intro _; rfl
  | succ n ih => intro h; show oHrs hr f n + hr (f n) = oHrs hr f' n + hr (f' n); rw [ih (fun j hj => h j (by omega)), h n (by omega)]
theorem oGs_c {hr f f' : Nat → Nat} {g : Nat → Nat → Nat} : ∀ n, (∀ j, j < n → f j = f' j) → oGs hr g f n = oGs hr g f' n := by
  intro n
  induction n with
  | zero => intro _; rfl
  | succ n ih => intro h; show oGs hr g f n + g (f n) (oHrs hr f n + hr (f n)) = oGs hr g f' n + g (f' n) (oHrs hr f' n + hr (f' n)); rw [ih (fun j hj => h j (by omega)), h n (by omega), oHrs_c n (fun j hj => h j (by omega))]
theorem oP_b (o : oT) (d : Nat) : ∀ j, j < o.1 → (oPush o d).2 j = o.2 j := fun j hj => if_neg (by omega)
theorem oP_t (o : oT) (d : Nat) : (oPush o d).2 o.1 = d := if_pos rfl
theorem oHrs_p (hr : Nat → Nat) (o : oT) (d : Nat) : oHrs hr (oPush o d).2 (oPush o d).1 = oHrs hr o.2 o.1 + hr d := by
  show oHrs hr (oPush o d).2 o.1 + hr ((oPush o d).2 o.1) = _
  rw [oP_t, oHrs_c o.1 (oP_b o d)]
theorem oGs_p (hr : Nat → Nat) (g : Nat → Nat → Nat) (o : oT) (d : Nat) : oGs hr g (oPush o d).2 (oPush o d).1 = oGs hr g o.2 o.1 + g d (oHrs hr o.2 o.1 + hr d) := by
  show oGs hr g (oPush o d).2 o.1 + g ((oPush o d).2 o.1) (oHrs hr (oPush o d).2 o.1 + hr ((oPush o d).2 o.1)) = _
  rw [oP_t, oGs_c o.1 (oP_b o d), oHrs_c o.1 (oP_b o d)]
theorem oMem_p (o : oT) (d x : Nat) : oMem (oPush o d).2 (oPush o d).1 x = (oMem o.2 o.1 x || decide (d = x)) := by
  show (oMem (oPush o d).2 o.1 x || decide ((oPush o d).2 o.1 = x)) = _
  rw [oP_t, oMem_c o.1 x (oP_b o d)]
def oOK (nd : Nat) (o : oT) : Prop := ∀ j, j < o.1 → o.2 j < nd ∧ oMem o.2 j (o.2 j) = false
theorem oOK.push {nd d : Nat} {o : oT} (h : oOK nd o) (hd : d < nd) (hm : oMem o.2 o.1 d = false) : oOK nd (oPush o d) := by
  intro j hj
  have hj' : j < o.1 + 1 := hj
  by_cases c : j = o.1
  · subst c
    rw [oP_t, oMem_c o.1 d (oP_b o d)]; exact ⟨hd, hm⟩
  · rw [oP_b o d j (by omega), oMem_c j (o.2 j) (fun i hi => oP_b o d i (by omega))]; exact h j (by omega)
theorem cN_or {P : Nat → Prop} [DecidablePred P] {d : Nat} (hP : ¬ P d) : ∀ n, cN (fun x => P x ∨ d = x) n = cN P n + (if d < n then 1 else 0) := by
  intro n
  induction n with
  | zero => rfl
  | succ n ih =>
    rw [cN_s, cN_s, ih]
    by_cases c : d = n
    · subst c
      rw [if_pos (Or.inr rfl), if_neg hP, if_neg (by omega), if_pos (by omega)]
    · by_cases p : P n
      · rw [if_pos (Or.inl p), if_pos p]
        by_cases q : d < n
        · rw [if_pos q, if_pos (by omega)]
        · rw [if_neg q, if_neg (by omega)]
      · rw [if_neg (fun z => by rcases z with z | z; exact p z; exact c z), if_neg p]
        by_cases q : d < n
        · rw [if_pos q, if_pos (by omega)]
        · rw [if_neg q, if_neg (by omega)]
theorem oMem_cN {nd : Nat} {f : Nat → Nat} : ∀ n, (∀ j, j < n → f j < nd ∧ oMem f j (f j) = false) → cN (fun x => oMem f n x = true) nd = n := by
  intro n
  induction n with
  | zero =>
    intro _
    have : ∀ k, cN (fun x => oMem f 0 x = true) k = 0 := by
      intro k
      induction k with
      | zero => rfl
      | succ k ih => rw [cN_s, ih, if_neg (by unfold oMem; simp)]
    exact this nd
  | succ n ih =>
    intro h
    have h1 := h n (by omega)
    have e : cN (fun x => oMem f (n + 1) x = true) nd = cN (fun x => oMem f n x = true ∨ f n = x) nd := cN_congr (fun x _ => by
      show (oMem f n x || decide (f n = x)) = true ↔ _
      simp)
    rw [e, cN_or (by rw [h1.2]; simp), ih (fun j hj => h j (by omega)), if_pos h1.1]
theorem cN_full {P : Nat → Prop} [DecidablePred P] : ∀ n, cN P n = n → ∀ x, x < n → P x := by
  intro n
  induction n with
  | zero => intro _ x hx; exact absurd hx (Nat.not_lt_zero _)
  | succ n ih =>
    intro h x hx
    rw [cN_s] at h
    have := cN_le P n
    by_cases p : P n
    · rw [if_pos p] at h
      by_cases c : x = n
      · rw [c]; exact p
      · exact ih (by omega) x (by omega)
    · rw [if_neg p] at h; omega
theorem oOK.le {nd : Nat} {o : oT} (h : oOK nd o) : o.1 ≤ nd := by
  have := oMem_cN o.1 h
  have := cN_le (fun x => oMem o.2 o.1 x = true) nd
  omega
theorem oOK.full {nd : Nat} {o : oT} (h : oOK nd o) (e : o.1 = nd) {d : Nat} (hd : d < nd) : oMem o.2 o.1 d = true := by
  have q := oMem_cN o.1 h
  exact cN_full (P := fun x => oMem o.2 o.1 x = true) nd (by rw [q]; exact e) d hd
-- orders, their worth, all of them in turn
section
variable (nd : Nat) (hr : Nat → Nat) (fb : Nat → Nat → Bool) (g : Nat → Nat → Nat) (V : oT → Int)
def oVal (o : oT) : Int := 1000 * (oGs hr g o.2 o.1 : Int) - (oHrs hr o.2 o.1 : Int)
abbrev oAl (o : oT) (d : Nat) : Prop := oMem o.2 o.1 d = false ∧ fb d (oHrs hr o.2 o.1 + hr d) = false
def oWon (o : oT) (d : Nat) : Int := 1000 * (g d (oHrs hr o.2 o.1 + hr d) : Int) - (hr d : Int) + V (oPush o d)
def fki {α : Type} (vis go : oT → α → α) (o : oT) : Nat → α → α
  | 0, b => b
  | m + 1, b => if oAl hr fb o (nd - (m + 1)) then fki vis go o m (go (oPush o (nd - (m + 1))) (vis (oPush o (nd - (m + 1))) b)) else fki vis go o m b
def fk {α : Type} (vis : oT → α → α) : Nat → oT → α → α
  | 0, _, b => b
  | n + 1, o, b => fki nd hr fb vis (fk vis n) o nd b
/-- the first deed of those that win most, of the last m -/
def fm (o : oT) : Nat → Option Nat
  | 0 => none
  | m + 1 => if oAl hr fb o (nd - (m + 1)) then (match fm o m with | none => some (nd - (m + 1)) | some d' => if oWon hr g V o (nd - (m + 1)) < oWon hr g V o d' then some d' else some (nd - (m + 1))) else fm o m
def fol : Nat → oT → oT
  | 0, c => c
  | n + 1, c => if V c ≤ 0 then c else (match fm nd hr fb g V c nd with | none => c | some d => fol n (oPush c d))
def visB (o b : oT) : oT := if oVal hr g b < oVal hr g o then o else b
end
section
variable {nd : Nat} {hr : Nat → Nat} {fb : Nat → Nat → Bool} {g : Nat → Nat → Nat} {V : oT → Int}
theorem oVal_p (o : oT) (d : Nat) : oVal hr g (oPush o d) + V (oPush o d) = oVal hr g o + oWon hr g V o d := by
  unfold oVal oWon
  rw [oGs_p, oHrs_p]
  omega
theorem fm_al {o : oT} : ∀ m, m ≤ nd → ∀ d, fm nd hr fb g V o m = some d → d < nd ∧ oAl hr fb o d := by
  intro m
  induction m with
  | zero => intro _ d h; exact absurd h (by unfold fm; simp)
  | succ m ih =>
    intro hm d h
    rw [fm] at h
    by_cases c : oAl hr fb o (nd - (m + 1))
    · rw [if_pos c] at h
      cases e : fm nd hr fb g V o m with
      | none => rw [e] at h; injection h with h; exact ⟨by omega, by rw [← h]; exact c⟩
      | some d' =>
        rw [e] at h
        have h : (if oWon hr g V o (nd - (m + 1)) < oWon hr g V o d' then some d' else some (nd - (m + 1))) = some d := h
        by_cases q : oWon hr g V o (nd - (m + 1)) < oWon hr g V o d'
        · rw [if_pos q] at h; injection h with h; rw [← h]; exact ih (by omega) d' e
        · rw [if_neg q] at h; injection h with h; exact ⟨by omega, by rw [← h]; exact c⟩
    · rw [if_neg c] at h; exact ih (by omega) d h
theorem fm_none {o : oT} (h : ∀ d, d < nd → ¬ oAl hr fb o d) : ∀ m, m ≤ nd → fm nd hr fb g V o m = none := by
  intro m
  induction m with
  | zero => intro _; rfl
  | succ m ih => intro hm; rw [fm, if_neg (h _ (by omega))]; exact ih (by omega)
/-- V is what can be won from here on -/
def VOK (nd : Nat) (hr : Nat → Nat) (fb : Nat → Nat → Bool) (g : Nat → Nat → Nat) (V : oT → Int) : Prop := ∀ o, oOK nd o → V o = (match fm nd hr fb g V o nd with | none => 0 | some d => if 0 < oWon hr g V o d then oWon hr g V o d else 0)
theorem VOK.pos (hV : VOK nd hr fb g V) {o : oT} (ho : oOK nd o) (h : 0 < V o) : ∃ d, fm nd hr fb g V o nd = some d ∧ V o = oWon hr g V o d := by
  have := hV o ho
  cases e : fm nd hr fb g V o nd with
  | none => rw [e] at this; have this : V o = 0 := this; omega
  | some d =>
    rw [e] at this
    have this : V o = if 0 < oWon hr g V o d then oWon hr g V o d else 0 := this
    by_cases c : 0 < oWon hr g V o d
    · rw [if_pos c] at this; exact ⟨d, rfl, this⟩
    · rw [if_neg c] at this; omega
theorem VOK.nn (hV : VOK nd hr fb g V) {o : oT} (ho : oOK nd o) : 0 ≤ V o := by
  rw [hV o ho]
  split
  · exact Int.le_refl _
  · split <;> omega
theorem V_full (hV : VOK nd hr fb g V) {o : oT} (ho : oOK nd o) (e : o.1 = nd) : V o = 0 := by
  rw [hV o ho, fm_none (fun d hd z => by have z1 := z.1; rw [ho.full e hd] at z1; exact absurd z1 (by simp)) nd (Nat.le_refl _)]
theorem val_fol (hV : VOK nd hr fb g V) : ∀ n c, oOK nd c → c.1 + n = nd → oVal hr g (fol nd hr fb g V n c) = oVal hr g c + V c := by
  intro n
  induction n with
  | zero => intro c hc e; rw [V_full hV hc (by omega)]; show oVal hr g c = _; omega
  | succ n ih =>
    intro c hc e
    rw [fol]
    have nn := hV.nn hc
    by_cases z : V c ≤ 0
    · rw [if_pos z]; omega
    · rw [if_neg z]
      obtain ⟨d, h1, h2⟩ := hV.pos hc (by omega)
      rw [h1]
      obtain ⟨a, b⟩ := fm_al nd (Nat.le_refl _) d h1
      show oVal hr g (fol nd hr fb g V n (oPush c d)) = _
      rw [ih (oPush c d) (hc.push a b.1) (by show c.1 + 1 + n = nd; omega), oVal_p, h2]
theorem fk_fol (hV : VOK nd hr fb g V) : ∀ n c, oOK nd c → c.1 + n = nd → ∀ b, fk nd hr fb (visB hr g) n c (visB hr g c b) = if oVal hr g b < oVal hr g c + V c then fol nd hr fb g V n c else b := by
  intro n
  induction n with
  | zero =>
    intro c hc e b
    rw [V_full hV hc (by omega), Int.add_zero]
    show visB hr g c b = _
    rfl
  | succ n ih =>
    intro c hc e b
    have kids : ∀ m, m ≤ nd → ∀ b, fki nd hr fb (visB hr g) (fk nd hr fb (visB hr g) n) c m b = (match fm nd hr fb g V c m with | none => b | some d => if oVal hr g b < oVal hr g c + oWon hr g V c d then fol nd hr fb g V n (oPush c d) else b) := by
      intro m
      induction m with
      | zero => intro _ b; rfl
      | succ m ihm =>
        intro hm b
        rw [fki, fm]
        by_cases al : oAl hr fb c (nd - (m + 1))
        · rw [if_pos al, if_pos al]
          have hp : oOK nd (oPush c (nd - (m + 1))) := hc.push (by omega) al.1
          have hl : (oPush c (nd - (m + 1))).1 + n = nd := by show c.1 + 1 + n = nd; omega
          rw [ih _ hp hl b, oVal_p, ihm (by omega)]
          have vf := val_fol hV n _ hp hl
          rw [oVal_p] at vf
          cases ef : fm nd hr fb g V c m with
          | none => rfl
          | some d' =>
            show (if oVal hr g (if oVal hr g b < oVal hr g c + oWon hr g V c (nd - (m + 1)) then fol nd hr fb g V n (oPush c (nd - (m + 1))) else b) < oVal hr g c + oWon hr g V c d' then fol nd hr fb g V n (oPush c d') else (if oVal hr g b < oVal hr g c + oWon hr g V c (nd - (m + 1)) then fol nd hr fb g V n (oPush c (nd - (m + 1))) else b)) = (match (if oWon hr g V c (nd - (m + 1)) < oWon hr g V c d' then some d' else some (nd - (m + 1))) with | none => b | some d => if oVal hr g b < oVal hr g c + oWon hr g V c d then fol nd hr fb g V n (oPush c d) else b)
            by_cases q : oWon hr g V c (nd - (m + 1)) < oWon hr g V c d'
            · rw [if_pos q]
              show _ = (if oVal hr g b < oVal hr g c + oWon hr g V c d' then fol nd hr fb g V n (oPush c d') else b)
              by_cases r : oVal hr g b < oVal hr g c + oWon hr g V c (nd - (m + 1))
              · rw [if_pos r, vf, if_pos (by omega), if_pos (by omega)]
              · rw [if_neg r]
            · rw [if_neg q]
              show _ = (if oVal hr g b < oVal hr g c + oWon hr g V c (nd - (m + 1)) then fol nd hr fb g V n (oPush c (nd - (m + 1))) else b)
              by_cases r : oVal hr g b < oVal hr g c + oWon hr g V c (nd - (m + 1))
              · rw [if_pos r, vf, if_neg (by omega)]
              · rw [if_neg r, if_neg (by omega)]
        · rw [if_neg al, if_neg al]; exact ihm (by omega) b
    show fki nd hr fb (visB hr g) (fk nd hr fb (visB hr g) n) c nd (visB hr g c b) = _
    rw [kids nd (Nat.le_refl _), fol]
    have hv := hV c hc
    cases ef : fm nd hr fb g V c nd with
    | none =>
      rw [ef] at hv
      have hv : V c = 0 := hv
      rw [hv, Int.add_zero, if_pos (show (0 : Int) ≤ 0 by omega)]; rfl
    | some d =>
      rw [ef] at hv
      have hv : V c = if 0 < oWon hr g V c d then oWon hr g V c d else 0 := hv
      show (if oVal hr g (visB hr g c b) < oVal hr g c + oWon hr g V c d then fol nd hr fb g V n (oPush c d) else visB hr g c b) = (if oVal hr g b < oVal hr g c + V c then (if V c ≤ 0 then c else fol nd hr fb g V n (oPush c d)) else b)
      unfold visB
      by_cases p : 0 < oWon hr g V c d
      · rw [if_pos p] at hv
        rw [hv, if_neg (show ¬ oWon hr g V c d ≤ 0 by omega)]
        by_cases r : oVal hr g b < oVal hr g c
        · rw [if_pos r, if_pos (by omega), if_pos (by omega)]
        · rw [if_neg r]
      · rw [if_neg p] at hv
        rw [hv, Int.add_zero, if_pos (Int.le_refl _)]
        by_cases r : oVal hr g b < oVal hr g c
        · rw [if_pos r, if_neg (by omega)]
        · rw [if_neg r, if_neg (by omega)]
end
end
