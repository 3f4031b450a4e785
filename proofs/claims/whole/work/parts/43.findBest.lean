section
variable {hc hm : xH} {d e : Nat} {S M : xSt}
-- the first of those that win most
def fmG (al : Nat → Prop) [DecidablePred al] (w : Nat → Int) (nd : Nat) : Nat → Option Nat
  | 0 => none
  | m + 1 => if al (nd - (m + 1)) then (match fmG al w nd m with | none => some (nd - (m + 1)) | some d' => if w (nd - (m + 1)) < w d' then some d' else some (nd - (m + 1))) else fmG al w nd m
def mxG (w : Nat → Int) (a : Int) (o : Option Nat) : Int := match o with | none => a | some d => if a < w d then w d else a
theorem fmG_c {al al' : Nat → Prop} [DecidablePred al] [DecidablePred al'] {w w' : Nat → Int} {nd : Nat} (h : ∀ d, d < nd → (al d ↔ al' d) ∧ (al d → w d = w' d)) : ∀ m, m ≤ nd → fmG al w nd m = fmG al' w' nd m ∧ ∀ d, fmG al w nd m = some d → d < nd ∧ al d := by
  intro m
  induction m with
  | zero => intro _; exact ⟨rfl, fun d z => absurd z (by unfold fmG; simp)⟩
  | succ m ih =>
    intro hm
    obtain ⟨i1, i2⟩ := ih (by omega)
    have hd := h (nd - (m + 1)) (by omega)
    rw [fmG, fmG]
    by_cases c : al (nd - (m + 1))
    · rw [if_pos c, if_pos (hd.1.mp c), ← i1]
      cases e : fmG al w nd m with
      | none => exact ⟨rfl, fun d z => by injection z with z; rw [← z]; exact ⟨by omega, c⟩⟩
      | some d' =>
        obtain ⟨j1, j2⟩ := i2 d' e
        show (if w (nd - (m + 1)) < w d' then some d' else some (nd - (m + 1))) = (if w' (nd - (m + 1)) < w' d' then some d' else some (nd - (m + 1))) ∧ ∀ d, (if w (nd - (m + 1)) < w d' then some d' else some (nd - (m + 1))) = some d → _
        rw [← hd.2 c, ← (h d' j1).2 j2]
        refine ⟨rfl, fun d z => ?_⟩
        by_cases y : w (nd - (m + 1)) < w d'
        · rw [if_pos y] at z; injection z with z; rw [← z]; exact ⟨j1, j2⟩
        · rw [if_neg y] at z; injection z with z; rw [← z]; exact ⟨by omega, c⟩
    · rw [if_neg c, if_neg (fun z => c (hd.1.mpr z))]; exact ⟨i1, i2⟩
theorem fm_fmG {nd : Nat} {hr : Nat → Nat} {fb : Nat → Nat → Bool} {g : Nat → Nat → Nat} {V : oT → Int} {o : oT} : ∀ m, fm nd hr fb g V o m = fmG (oAl hr fb o) (oWon hr g V o) nd m := by
  intro m
  induction m with
  | zero => rfl
  | succ m ih =>
    rw [fm, fmG, ih]
    by_cases c : oAl hr fb o (nd - (m + 1))
    · rw [if_pos c, if_pos c]
      cases fmG (oAl hr fb o) (oWon hr g V o) nd m <;> rfl
    · rw [if_neg c, if_neg c]
theorem fmG_spec {al : Nat → Prop} [DecidablePred al] {w : Nat → Int} {nd : Nat} : ∀ m, m ≤ nd → ∀ d, fmG al w nd m = some d → nd - m ≤ d ∧ d < nd ∧ al d ∧ ∀ d', nd - m ≤ d' → d' < d → al d' → w d' < w d := by
  intro m
  induction m with
  | zero => intro _ d h; exact absurd h (by unfold fmG; simp)
  | succ m ih =>
    intro hm d h
    rw [fmG] at h
    by_cases c : al (nd - (m + 1))
    · rw [if_pos c] at h
      cases e : fmG al w nd m with
      | none =>
        rw [e] at h
        injection h with h
        rw [← h]; exact ⟨Nat.le_refl _, by omega, c, fun d' h1 h2 => absurd h1 (by omega)⟩
      | some d' =>
        rw [e] at h
        have h : (if w (nd - (m + 1)) < w d' then some d' else some (nd - (m + 1))) = some d := h
        obtain ⟨j1, j2, j3, j4⟩ := ih (by omega) d' e
        by_cases y : w (nd - (m + 1)) < w d'
        · rw [if_pos y] at h; injection h with h
          rw [← h]
          refine ⟨by omega, j2, j3, fun x h1 h2 h3 => ?_⟩
          by_cases z : x = nd - (m + 1)
          · rw [z]; exact y
          · exact j4 x (by omega) h2 h3
        · rw [if_neg y] at h; injection h with h
          rw [← h]; exact ⟨Nat.le_refl _, by omega, c, fun d' h1 h2 => absurd h1 (by omega)⟩
    · rw [if_neg c] at h
      obtain ⟨j1, j2, j3, j4⟩ := ih (by omega) d h
      refine ⟨by omega, j2, j3, fun x h1 h2 h3 => ?_⟩
      by_cases z : x = nd - (m + 1)
      · rw [z] at h3; exact absurd h3 c
      · exact j4 x (by omega) h2 h3
theorem mxG_s {al : Nat → Prop} [DecidablePred al] {w : Nat → Int} {nd m : Nat} (a : Int) : mxG w a (fmG al w nd (m + 1)) = mxG w (if al (nd - (m + 1)) then (if a < w (nd - (m + 1)) then w (nd - (m + 1)) else a) else a) (fmG al w nd m) := by
  rw [fmG]
  by_cases c : al (nd - (m + 1))
  · rw [if_pos c, if_pos c]
    cases e : fmG al w nd m with
    | none => rfl
    | some d' =>
      show mxG w a (if w (nd - (m + 1)) < w d' then some d' else some (nd - (m + 1))) = (if (if a < w (nd - (m + 1)) then w (nd - (m + 1)) else a) < w d' then w d' else (if a < w (nd - (m + 1)) then w (nd - (m + 1)) else a))
      by_cases y : w (nd - (m + 1)) < w d'
      · rw [if_pos y]
        show (if a < w d' then w d' else a) = _
        by_cases z : a < w (nd - (m + 1))
        · rw [if_pos z, if_pos y, if_pos (by omega)]
        · rw [if_neg z]
      · rw [if_neg y]
        show (if a < w (nd - (m + 1)) then w (nd - (m + 1)) else a) = _
        by_cases z : a < w (nd - (m + 1))
        · rw [if_pos z, if_neg y]
        · rw [if_neg z, if_neg (by omega)]
  · rw [if_neg c, if_neg c]
section
variable {S0 : xSt} {nd nb hd D : Nat} {hr : Nat → Nat} {x : Int32}
/-- what the class is told, of which its orders are reckoned -/
def CT (S0 : xSt) (nd nb hd : Nat) (hr : Nat → Nat) : Prop := (S0.1 2 4 = nI nd ∧ nd ≤ 6) ∧ (S0.1 2 6 = nI nb ∧ nb ≤ 10) ∧ (S0.1 2 17 = nI hd ∧ 1 ≤ hd ∧ hd ≤ 24) ∧ ∀ d, d < nd → S0.1 6 d = nI (hr d) ∧ hr d ≤ 24
theorem m_keptBy (hT : CT S0 nd nb hd hr) (hC : CO S0 nd nb hr x S) (hB : S.1 46 4 = nI D) {dd t : Nat} {K : Int32 → xSt → Prop} (H : K (if fbS S0 nb x D hd dd t = true then -1 else kvS S0 nb x D hd dd t) S) : M_Or_keptBy hc d (nI dd) (nI t) S K := by
  obtain ⟨⟨d1, d2⟩, ⟨b1, b2⟩, ⟨t1, t2, t3⟩, hh⟩ := hT
  obtain ⟨c1, c2, c3, c4⟩ := hC
  have eh : S.1 2 17 = nI hd := by rw [c1 2 (by omega)]; exact t1
  have fl := flT_le (onM S0 x) nb
  refine e_Or_keptBy (br_f (by rw [eh]; exact fun z => absurd ((nLe (b := 0) (by omega) (by omega)).mp z) (by omega)) ⟨by rw [eh]; exact fun z => absurd ((nEq (b := 0) (by omega) (by omega)).mp z) (by omega), b_Or_keptBy_29 ?_⟩)
  rw [eh, hB]
  show B_Or_keptBy_37 hc d (nI dd) (oDay D hd t) 0 0 S K
  -- the bits
  let φ : Nat → Int32 → Int32 := fun b a => if S0.1 9 b = nI dd ∧ ¬ S0.1 11 b < oDay D hd t ∧ ¬ S0.1 10 b = 0 then a ||| oneAt (nI b) else a
  have ek : fo (fun j a => φ ((flT (onM S0 x) nb).2 j) a) (flT (onM S0 x) nb).1 0 = kvS S0 nb x D hd dd t := by
    rw [fo_fl (onM S0 x) φ 0 nb]
    unfold kvS
    refine fo_congr (fun b _ a => ?_) 0
    by_cases o : onM S0 x b
    · rw [if_pos o]
      show (if _ then _ else _) = _
      by_cases y : S0.1 9 b = nI dd ∧ ¬ S0.1 11 b < oDay D hd t ∧ ¬ S0.1 10 b = 0
      · rw [if_pos y, if_pos ⟨⟨o.1, o.2, y.1, y.2.1⟩, y.2.2⟩]
      · rw [if_neg y, if_neg (fun z => y ⟨z.1.2.2.1, z.1.2.2.2, z.2⟩)]
    · rw [if_neg o, if_neg (fun z => o ⟨z.1.1, z.1.2.1⟩)]
  have go : ∀ k j, j + k = (flT (onM S0 x) nb).1 → (∀ i, i < j → ¬ (S0.1 9 ((flT (onM S0 x) nb).2 i) = nI dd ∧ ¬ S0.1 11 ((flT (onM S0 x) nb).2 i) < oDay D hd t ∧ S0.1 10 ((flT (onM S0 x) nb).2 i) = 0)) → B_Or_keptBy_37 hc d (nI dd) (oDay D hd t) (fo (fun j a => φ ((flT (onM S0 x) nb).2 j) a) j 0) (nI j) S K := by
    intro k
    induction k with
    | zero =>
      intro j hj hb
      have : j = (flT (onM S0 x) nb).1 := by omega
      subst this
      refine b_Or_keptBy_37 (br_t (by rw [c2]; exact nI_le (Nat.le_refl _) (by omega)) ?_)
      rw [ek]
      rw [if_neg] at H
      · exact H
      · intro z
        obtain ⟨b, h1, h2, h3⟩ := fb_iff.mp z
        obtain ⟨j, h4, h5⟩ := flT_all (onM S0 x) nb b h1 ⟨h2.1, h2.2.1⟩
        exact hb j h4 (by rw [h5]; exact ⟨h2.2.2.1, h2.2.2.2, h3⟩)
    | succ k ih =>
      intro j hj hb
      obtain ⟨f1, f2⟩ := flT_in (onM S0 x) nb j (by omega)
      have ej := c3 j (by omega)
      have ih' := ih (j + 1) (by omega)
      generalize hm : (flT (onM S0 x) nb).2 j = m at f1 f2 ej
      have v : vp_in (nI m) 10 := vIn (by omega) (by omega)
      have cm : (nI m).toNatClampNeg = m := nCl (by omega)
      have nx : ∀ a, a = φ m (fo (fun j a => φ ((flT (onM S0 x) nb).2 j) a) j 0) → ¬ (S0.1 9 m = nI dd ∧ ¬ S0.1 11 m < oDay D hd t ∧ S0.1 10 m = 0) → B_Or_keptBy_107 hc d (nI dd) (oDay D hd t) a (nI j) S K := by
        intro a ha hno
        refine b_Or_keptBy_107 ?_
        rw [nI_1, ha]
        have : φ m (fo (fun j a => φ ((flT (onM S0 x) nb).2 j) a) j 0) = fo (fun j a => φ ((flT (onM S0 x) nb).2 j) a) (j + 1) 0 := by rw [← hm]; rfl
        rw [this]
        refine ih' (fun i hi => ?_)
        by_cases y : i = j
        · rw [y, hm]; exact hno
        · exact hb i (by omega)
      refine b_Or_keptBy_37 (br_f (by rw [c2]; exact nI_ge (by omega) (by omega)) ⟨vIn (by omega) (by omega), ?_⟩)
      rw [nCl (by omega), ej, cm, c1 9 (by omega), c1 11 (by omega), c1 10 (by omega)]
      refine ⟨v, ?_⟩
      by_cases k1 : S0.1 9 m = nI dd
      · refine br_nt k1 ⟨v, ?_⟩
        by_cases k2 : S0.1 11 m < oDay D hd t
        · exact br_t k2 (nx _ (by show _ = if _ then _ else _; rw [if_neg (fun z => z.2.1 k2)]) (fun z => z.2.1 k2))
        · refine br_f k2 ⟨v, ?_⟩
          by_cases k3 : S0.1 10 m = 0
          · refine br_nt k3 ?_
            rw [if_pos (fb_iff.mpr ⟨m, f1, ⟨f2.1, f2.2, k1, k2⟩, k3⟩)] at H
            exact H
          · exact br_nf k3 (nx _ (by show _ = if _ then _ else _; rw [if_pos ⟨k1, k2, k3⟩]) (fun z => k3 z.2.2))
      · exact br_nf k1 (nx _ (by show _ = if _ then _ else _; rw [if_neg (fun z => k1 z.1)]) (fun z => k1 z.1))
  exact go (flT (onM S0 x) nb).1 0 (by omega) (fun i hi => absurd hi (Nat.not_lt_zero _))
end
end
