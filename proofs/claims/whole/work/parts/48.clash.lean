section
variable {hc hm : xH} {d e : Nat} {S M : xSt}
section
variable {S0 : xSt} {nd nb hd D : Nat} {hr : Nat → Nat} {x : Int32}
abbrev mF0 : Nat → Bool := fun j => decide (j = 0)
/-- the sets that can be kept -/
def mKp (S0 : xSt) (nd nb hd D : Nat) (hr : Nat → Nat) (x : Int32) : Nat → Bool := clD nb (2 ^ nb - 1) (fk nd hr (fbS S0 nb x D hd) (visM S0 nb hd D hr x) nd oZ mF0)
theorem vis0 : visM S0 nb hd D hr x oZ (fun _ => false) = mF0 := by
  funext j
  show (if j = kN S0 nb hd D hr x oZ then true else false) = decide (j = 0)
  have : kN S0 nb hd D hr x oZ = 0 := by show (0 : Int32).toNatClampNeg = 0; decide
  rw [this]
  by_cases y : j = 0
  · simp [y]
  · simp [y]
theorem supp0 : supp (2 ^ nb) mF0 := fun j hj => by
  have : j = 0 := by simpa using hj
  rw [this]; exact Nat.pow_pos (by omega)
theorem mK1 (hnb : nb ≤ 10) : supp (2 ^ nb) (fk nd hr (fbS S0 nb x D hd) (visM S0 nb hd D hr x) nd oZ mF0) := fk_I (supp (2 ^ nb)) (fun o a h => visM_s hnb o a h) nd oZ mF0 supp0
theorem mB1 (b : Bool) : mB b = 1 ↔ b = true := by cases b <;> decide
theorem mB0 (b : Bool) : mB b = 0 ↔ b = false := by cases b <;> decide
theorem m_markKeep (hT : CT S0 nd nb hd hr) (hC : CO S0 nd nb hr x S) (hB : S.1 46 4 = nI D) {K : xSt → Prop} (H : ∀ q, QC S nb (mKp S0 nd nb hd D hr x) q → K q) : M_Or_markKeepable hc d S K := by
  have hnd := hT.1.2
  have hnb := hT.2.1.2
  have p2 : 2 ^ nb ≤ 1024 := Nat.pow_le_pow_right (n := 2) (by omega) (show nb ≤ 10 by omega)
  have p1 : 1 ≤ 2 ^ nb := Nat.pow_pos (by omega)
  have eb : ∀ q : xSt, (∀ c, c ≠ 50 → q.1 c = S.1 c) → q.1 2 6 = nI nb := fun q h => by rw [h 2 (by decide), hC.1 2 (by omega)]; exact hT.2.1.1
  refine e_Or_markKeepable ?_
  refine lp_inv (B := fun i (q : xSt) => B_Or_markKeepable_2 hc d (nI i) q K) (fun i q => (∀ c, c ≠ 50 → q.1 c = S.1 c) ∧ ∀ j, j < i → q.1 50 j = 0) (2 ^ nb) (fun i q hi hI ih => ?_) (fun q hI => ?_) S ⟨fun c _ => rfl, fun j hj => absurd hj (Nat.not_lt_zero _)⟩
  · obtain ⟨q1, q2⟩ := hI
    refine b_Or_markKeepable_2 (br_f (by rw [eb q q1, set_1 nb (by omega)]; exact nI_ge hi (by omega)) ⟨vIn (by omega) (by omega), ?_⟩)
    have e0 : vp_nar .byte 0 = 0 := by decide +kernel
    rw [nCl (by omega), nI_1, e0]
    refine ih _ ⟨fun c hc => by rw [gI_ne _ _ _ hc]; exact q1 c hc, fun j hj => ?_⟩
    rw [gI_same]
    by_cases y : j = i
    · rw [y, up_s]
    · rw [up_n _ _ y]; exact q2 j (by omega)
  · obtain ⟨q1, q2⟩ := hI
    refine b_Or_markKeepable_2 (br_t (by rw [eb q q1, set_1 nb (by omega)]; exact nI_le (Nat.le_refl _) (by omega)) ?_)
    have mo := m_markOrders (hc := hc) hT hC hB nd oZ oZ_ok (by show 0 + nd = nd; omega) (d + 7 - nd) (fun _ => false) q (fun S1 => B_Or_markKeepable_47 hc d (((1) <<< ((S1.1 2 6) &&& 31)) - (1)) S1 K) ⟨q1, fun j hj => by rw [q2 j hj]; rfl⟩
    rw [vis0, show d + 7 - nd + nd + 1 = d + 8 by omega] at mo
    refine mo (fun q3 h3 => ?_)
    rw [eb q3 h3.1, set_1 nb (by omega), show (1 : Int32) = nI 1 from rfl, pk_sub p1]
    -- down
    have go : ∀ s, s < 2 ^ nb → ∀ m q, QC S nb m q → (∀ q, QC S nb (clD nb s m) q → K q) → B_Or_markKeepable_47 hc d (nI s) q K := by
      intro s
      induction s with
      | zero => intro _ m q hq H; exact b_Or_markKeepable_47 (br_t (by decide) (H q hq))
      | succ s ih =>
        intro hs m q hq H
        refine b_Or_markKeepable_47 (br_f (fun z => by have := (nLe (b := 0) (by omega) (by omega)).mp z; omega) ?_)
        have nx : ∀ m' q', QC S nb m' q' → m' = clS nb (s + 1) m → B_Or_markKeepable_93 hc d (nI (s + 1)) q' K := by
          intro m' q' h' em
          refine b_Or_markKeepable_93 ?_
          rw [add_m1, nI_pred]
          exact ih (by omega) m' q' h' (by rw [em]; exact H)
        by_cases c : m (s + 1) = true
        · refine lp_inv (B := fun i (q : xSt) => B_Or_markKeepable_53 hc d (nI (s + 1)) (nI i) q K) (fun i q => QC S nb (fo (clF (s + 1)) i m) q) nb (fun i q hi hI ih2 => ?_) (fun q hI => ?_) q hq
          · refine b_Or_markKeepable_53 (br_f (by rw [eb q hI.1]; exact nI_ge hi (by omega)) ⟨vIn (by omega) (by omega), br_nt ?_ ?_⟩)
            · rw [nCl (by omega), hI.2 _ hs, fo_mono c]; rfl
            · rw [clr_e (s + 1) (by omega) i (by omega), nI_1]
              have := clr_le (s + 1) i
              refine ⟨vIn (by omega) (by omega), ih2 _ ?_⟩
              rw [nCl (by omega)]
              exact hI.put
          · exact b_Or_markKeepable_53 (br_t (by rw [eb q hI.1]; exact nI_le (Nat.le_refl _) (by omega)) (nx _ q hI (by unfold clS; rw [if_pos c])))
        · have nx' := nx m q hq (by unfold clS; rw [if_neg c])
          show B_Or_markKeepable_53 hc d (nI (s + 1)) (nI 0) q K
          refine b_Or_markKeepable_53 ?_
          by_cases z : q.1 2 6 ≤ nI 0
          · exact br_t z nx'
          · refine br_f z ⟨vIn (by omega) (by omega), br_nf ?_ nx'⟩
            rw [nCl (by omega), hq.2 _ hs]
            exact fun y => c ((mB1 _).mp y)
    exact go (2 ^ nb - 1) (by omega) _ q3 h3 H
/-- the oaths that are wanted -/
def wT (S0 : xSt) (nb : Nat) (x : Int32) : Int32 := fo (fun b a => if onM S0 x b ∧ ¬ S0.1 10 b = 0 then a ||| oneAt (nI b) else a) nb 0
theorem wT_s (hnb : nb ≤ 10) : ∃ w, w < 2 ^ nb ∧ wT S0 nb x = nI w := bits_nb hnb (fun i hi h => by
  unfold wT
  rw [b_mk (P := fun b => onM S0 x b ∧ ¬ S0.1 10 b = 0) (by omega) hi]
  exact decide_eq_false (fun z => absurd z.1 (by omega)))
def bet (s : Nat) (f : Option Nat) : Bool := match f with | none => true | some k => decide (pcI (nI s) < pcI (nI k))
def fcS (m : Nat → Bool) (w : Nat) (s : Nat) (f : Option Nat) : Option Nat := if (nI s &&& (nI w ^^^ (-1)) = 0 ∧ m s = false) ∧ bet s f = true then some s else f
def fcD (m : Nat → Bool) (w : Nat) : Nat → Option Nat
  | 0 => none
  | s + 1 => fcS m w (s + 1) (fcD m w s)
def oI (f : Option Nat) : Int32 := match f with | none => -1 | some k => nI k
theorem fcD_lt {m : Nat → Bool} {w : Nat} : ∀ s k, fcD m w s = some k → k ≤ s := by
  intro s
  induction s with
  | zero => intro k h; exact absurd h (by unfold fcD; simp)
  | succ s ih =>
    intro k h
    rw [fcD, fcS] at h
    split at h
    · injection h with h; omega
    · have := ih k h; omega
theorem fcD_hi {m : Nat → Bool} {w : Nat} : ∀ k, w + k < 1024 → fcD m w (w + k) = fcD m w w := by
  intro k
  induction k with
  | zero => intro _; rfl
  | succ k ih =>
    intro h
    show fcS m w (w + k + 1) (fcD m w (w + k)) = _
    unfold fcS
    rw [if_neg (fun z => by have := sub_le (show w + k + 1 < 1024 by omega) z.1.1; omega), ih (by omega)]
theorem m_smallest (hT : CT S0 nd nb hd hr) (hp : ∀ b, b < nb → S0.1 10 b = 0 ∨ S0.1 10 b = 1) (hC : CO S0 nd nb hr x S) {w : Nat} (hw : w < 2 ^ nb) (ew : wT S0 nb x = nI w) {K : Int32 → xSt → Prop} (H : ∀ q, (∀ c, c < 46 ∨ 51 < c → q.1 c = S0.1 c) → K (oI (fcD (mKp S0 nd nb hd D hr x) w w)) q) : M_Or_smallestClash hc d (nI D) S K := by
  have hnd := hT.1.2
  have hnb := hT.2.1.2
  have p2 : 2 ^ nb ≤ 1024 := Nat.pow_le_pow_right (n := 2) (by omega) (show nb ≤ 10 by omega)
  have p1 : 1 ≤ 2 ^ nb := Nat.pow_pos (by omega)
  have hC1 : CO S0 nd nb hr x (x_putI S 46 4 (nI D)) := ⟨fun c hc => by rw [gI_ne _ _ _ (by omega)]; exact hC.1 c hc, hC.2.1, hC.2.2.1, hC.2.2.2⟩
  refine e_Or_smallestClash (m_markKeep hT hC1 rfl (fun q hq => ?_))
  have hCq := hC1.qc hq
  have H' := H q (fun c hc => hCq.1 c hc)
  have hm := hq.2
  generalize mKp S0 nd nb hd D hr x = m at *
  obtain ⟨c1, c2, c3, c4⟩ := hCq
  have fl := flT_le (onM S0 x) nb
  have eb : q.1 2 6 = nI nb := by rw [c1 2 (by omega)]; exact hT.2.1.1
  -- the search
  have srch : B_Or_smallestClash_65 hc d (nI w) (-1) 1 q K := by
    have go : ∀ k s, s + k = 2 ^ nb - 1 → B_Or_smallestClash_65 hc d (nI w) (oI (fcD m w s)) (nI (s + 1)) q K := by
      intro k
      induction k with
      | zero =>
        intro s hs
        refine b_Or_smallestClash_65 (br_t (by rw [eb, set_1 nb (by omega)]; exact nI_le (by omega) (by omega)) ?_)
        have := fcD_hi (m := m) (w := w) (s - w) (by omega)
        rw [show w + (s - w) = s by omega] at this
        rw [this]; exact H'
      | succ k ih =>
        intro s hs
        have nx : ∀ f, f = fcS m w (s + 1) (fcD m w s) → B_Or_smallestClash_118 hc d (nI w) (oI f) (nI (s + 1)) q K := by
          intro f hf
          refine b_Or_smallestClash_118 ?_
          rw [nI_1, hf]
          exact ih (s + 1) (by omega)
        have flt := fcD_lt (m := m) (w := w) s
        refine b_Or_smallestClash_65 (br_f (by rw [eb, set_1 nb (by omega)]; exact nI_ge (by omega) (by omega)) ?_)
        unfold fcS at nx
        generalize fcD m w s = f at *
        by_cases a1 : nI (s + 1) &&& (nI w ^^^ (-1)) = 0
        · refine br_nt a1 ⟨vIn (by omega) (by omega), ?_⟩
          rw [nCl (by omega), hm _ (by omega)]
          by_cases a2 : m (s + 1) = false
          · refine br_nt ((mB0 _).mpr a2) ?_
            cases f with
            | none => exact br_t rfl (b_Or_smallestClash_115 (nx (some (s + 1)) (by rw [if_pos ⟨⟨a1, a2⟩, rfl⟩])))
            | some k0 =>
              have := flt k0 rfl
              have l1 := pcI_le (nI (s + 1))
              have l2 := pcI_le (nI k0)
              refine br_f (nM1 (by omega)) (m_bitC rfl (by omega) (m_bitC (x := nI k0) rfl (by omega) ?_))
              by_cases a3 : pcI (nI (s + 1)) < pcI (nI k0)
              · exact br_f (nI_ge a3 (by omega)) (b_Or_smallestClash_115 (nx (some (s + 1)) (by rw [if_pos ⟨⟨a1, a2⟩, decide_eq_true a3⟩])))
              · exact br_t (nI_le (by omega) (by omega)) (nx (some k0) (by rw [if_neg (fun z => a3 (of_decide_eq_true z.2))]))
          · exact br_nf (fun y => a2 ((mB0 _).mp y)) (nx f (by rw [if_neg (fun z => a2 z.1.2)]))
        · exact br_nf a1 (nx f (by rw [if_neg (fun z => a1 z.1.1)]))
    exact go (2 ^ nb - 1) 0 (by omega)
  -- the oaths wanted
  let φ : Nat → Int32 → Int32 := fun b a => if ¬ S0.1 10 b = 0 then a ||| oneAt (nI b) else a
  have ek : fo (fun j a => φ ((flT (onM S0 x) nb).2 j) a) (flT (onM S0 x) nb).1 0 = nI w := by
    rw [fo_fl (onM S0 x) φ 0 nb, ← ew]
    unfold wT
    refine fo_congr (fun b _ a => ?_) 0
    by_cases o : onM S0 x b
    · rw [if_pos o]
      show (if _ then _ else _) = _
      by_cases y : ¬ S0.1 10 b = 0
      · rw [if_pos y, if_pos ⟨o, y⟩]
      · rw [if_neg y, if_neg (fun z => y z.2)]
    · rw [if_neg o, if_neg (fun z => o z.1)]
  refine lp_up (B := fun i (a : Int32) => B_Or_smallestClash_13 hc d a (nI i) q K) (fun j a => φ ((flT (onM S0 x) nb).2 j) a) (flT (onM S0 x) nb).1 (fun i a hi ih => ?_) 0 ?_
  · obtain ⟨f1, f2⟩ := flT_in (onM S0 x) nb i hi
    have ej := c3 i hi
    generalize (flT (onM S0 x) nb).2 i = b at *
    refine b_Or_smallestClash_13 (br_f (by rw [c2]; exact nI_ge hi (by omega)) ⟨vIn (by omega) (by omega), ?_⟩)
    rw [nCl (by omega), ej, nCl (by omega), c1 10 (by omega)]
    refine ⟨vIn (by omega) (by omega), ?_⟩
    have ih : B_Or_smallestClash_13 hc d (if ¬ S0.1 10 b = 0 then a ||| oneAt (nI b) else a) (nI (i + 1)) q K := ih
    rcases hp b f1 with z | z
    · rw [if_neg (fun y => y z)] at ih
      refine br_nf (by rw [z]; decide) (b_Or_smallestClash_52 ?_)
      rw [nI_1, Int32.or_zero]; exact ih
    · rw [if_pos (by rw [z]; decide)] at ih
      refine br_nt z ⟨vIn (by omega) (by omega), b_Or_smallestClash_52 ?_⟩
      rw [nI_1]; exact ih
  · rw [ek]
    exact b_Or_smallestClash_13 (br_t (by rw [c2]; exact nI_le (Nat.le_refl _) (by omega)) srch)
end
end
