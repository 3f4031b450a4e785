section
variable {hc hm : xH} {d e : Nat} {S M : xSt}
-- sets that are marked
def mB (b : Bool) : Int32 := if b = true then 1 else 0
def setB (m : Nat → Bool) (k : Nat) : Nat → Bool := fun j => if j = k then true else m j
theorem mB_up {f : Nat → Int32} {m : Nat → Bool} {k n : Nat} (h : ∀ j, j < n → f j = mB (m j)) : ∀ j, j < n → upd f k 1 j = mB (setB m k j) := by
  intro j hj
  unfold setB
  by_cases y : j = k
  · rw [y, up_s, if_pos rfl]; rfl
  · rw [up_n _ _ y, if_neg y]; exact h j hj
def clr (s b : Nat) : Nat := if s.testBit b = true then s - 2 ^ b else s
theorem clr_e : ∀ s, s < 1024 → ∀ b, b < 10 → nI s &&& (oneAt (nI b) ^^^ (-1)) = nI (clr s b) := by decide +kernel
theorem clr_le (s b : Nat) : clr s b ≤ s := by unfold clr; split; exact Nat.sub_le _ _; exact Nat.le_refl _
theorem clr_hi {s b n : Nat} (h : s < 2 ^ n) (hb : n ≤ b) : clr s b = s := by
  unfold clr
  rw [if_neg]
  rw [Nat.testBit_lt_two_pow (Nat.lt_of_lt_of_le h (Nat.pow_le_pow_right (by omega) hb))]
  simp
abbrev clF (s : Nat) : Nat → (Nat → Bool) → (Nat → Bool) := fun b m => setB m (clr s b)
def clS (nb s : Nat) (m : Nat → Bool) : Nat → Bool := if m s = true then fo (clF s) nb m else m
def clD (nb : Nat) : Nat → (Nat → Bool) → (Nat → Bool)
  | 0, m => m
  | s + 1, m => clD nb s (clS nb (s + 1) m)
theorem setB_id {m : Nat → Bool} {k : Nat} (h : m k = true) : setB m k = m := by
  funext j
  unfold setB
  by_cases y : j = k
  · rw [if_pos y, y, h]
  · rw [if_neg y]
theorem fo_mono {m : Nat → Bool} {s k : Nat} (h : m k = true) : ∀ n, fo (clF s) n m k = true := by
  intro n
  induction n with
  | zero => exact h
  | succ n ih =>
    show setB (fo (clF s) n m) (clr s n) k = true
    unfold setB
    split
    · rfl
    · exact ih
def supp (n : Nat) (m : Nat → Bool) : Prop := ∀ j, m j = true → j < n
theorem supp_fo {m : Nat → Bool} {s n : Nat} (h : supp n m) (hs : s < n) : ∀ k, supp n (fo (clF s) k m) := by
  intro k
  induction k with
  | zero => exact h
  | succ k ih =>
    intro j hj
    have hj : setB (fo (clF s) k m) (clr s k) j = true := hj
    unfold setB at hj
    by_cases y : j = clr s k
    · have := clr_le s k; omega
    · rw [if_neg y] at hj; exact ih j hj
theorem fo_hi {m : Nat → Bool} {s nb : Nat} (hs : s < 2 ^ nb) (h : m s = true) : ∀ k, fo (clF s) (nb + k) m = fo (clF s) nb m := by
  intro k
  induction k with
  | zero => rfl
  | succ k ih =>
    show setB (fo (clF s) (nb + k) m) (clr s (nb + k)) = _
    rw [clr_hi hs (by omega), setB_id (fo_mono h _), ih]
theorem clD_lo {nb : Nat} (hb : nb ≤ 10) : ∀ s, s < 2 ^ nb → ∀ m, clD 10 s m = clD nb s m := by
  intro s
  induction s with
  | zero => intro _ m; rfl
  | succ s ih =>
    intro hs m
    show clD 10 s (clS 10 (s + 1) m) = clD nb s (clS nb (s + 1) m)
    have : clS 10 (s + 1) m = clS nb (s + 1) m := by
      unfold clS
      by_cases c : m (s + 1) = true
      · rw [if_pos c, if_pos c]
        have := fo_hi hs c (10 - nb)
        rw [show nb + (10 - nb) = 10 by omega] at this
        exact this
      · rw [if_neg c, if_neg c]
    rw [this, ih (by omega)]
theorem clD_hi {n N : Nat} {m : Nat → Bool} (h : supp n m) (hn : 1 ≤ n) : ∀ k, clD N (n - 1 + k) m = clD N (n - 1) m := by
  intro k
  induction k with
  | zero => rfl
  | succ k ih =>
    show clD N (n - 1 + k) (clS N (n - 1 + k + 1) m) = _
    have : clS N (n - 1 + k + 1) m = m := by
      unfold clS
      rw [if_neg (fun z => by have := h _ z; omega)]
    rw [this, ih]
theorem clD_eq {nb : Nat} (hb : nb ≤ 10) {m : Nat → Bool} (h : supp (2 ^ nb) m) : clD 10 1023 m = clD nb (2 ^ nb - 1) m := by
  have p1 : 1 ≤ 2 ^ nb := Nat.pow_pos (by omega)
  have p2 : 2 ^ nb ≤ 1024 := Nat.pow_le_pow_right (n := 2) (by omega) (show nb ≤ 10 by omega)
  rw [← clD_lo hb (2 ^ nb - 1) (by omega) m, ← clD_hi h p1 (1024 - 2 ^ nb), show 2 ^ nb - 1 + (1024 - 2 ^ nb) = 1023 by omega]
theorem fk_I {α : Type} {nd : Nat} {hr : Nat → Nat} {fb : Nat → Nat → Bool} {vis : oT → α → α} (I : α → Prop) (hv : ∀ o a, I a → I (vis o a)) : ∀ n o a, I a → I (fk nd hr fb vis n o a) := by
  intro n
  induction n with
  | zero => intro o a h; exact h
  | succ n ih =>
    intro o a h
    have kids : ∀ m a, I a → I (fki nd hr fb vis (fk nd hr fb vis n) o m a) := by
      intro m
      induction m with
      | zero => intro a h; exact h
      | succ m ihm =>
        intro a h
        rw [fki]
        split
        · exact ihm _ (ih _ _ (hv _ _ h))
        · exact ihm _ h
    exact kids nd a h
-- bits of numbers
theorem bt_n {n i : Nat} (h : i < 32) : bt (nI n) i = n.testBit i := by
  show (BitVec.ofNat 32 n).getLsbD i = _
  rw [BitVec.getLsbD_ofNat]; simp [h]
theorem bits_nb {x : Int32} {nb : Nat} (hnb : nb ≤ 10) (h : ∀ i, i < 32 → nb ≤ i → bt x i = false) : ∃ k, k < 2 ^ nb ∧ x = nI k := by
  obtain ⟨k, h1, h2⟩ := bits10 (fun i hi h10 => h i hi (by omega))
  refine ⟨k, ?_, h2⟩
  apply Nat.lt_pow_two_of_testBit
  intro i hi
  by_cases c : i < 32
  · have := h i c hi
    rw [h2, bt_n c] at this; exact this
  · exact Nat.testBit_lt_two_pow (Nat.lt_of_lt_of_le h1 (Nat.pow_le_pow_right (n := 2) (by omega) (show 10 ≤ i by omega)))
theorem sub_le {s w : Nat} (hs : s < 1024) (h : nI s &&& (nI w ^^^ (-1)) = 0) : s ≤ w := by
  have : s &&& w = s := by
    apply Nat.eq_of_testBit_eq
    intro i
    rw [Nat.testBit_and]
    by_cases c : i < 32
    · have h2 : bt (nI s &&& (nI w ^^^ (-1))) i = false := by rw [h, b_0]
      rw [b_and, b_xor, b_m1 i c, bt_n c, bt_n c] at h2
      cases q1 : s.testBit i with
      | false => rfl
      | true =>
        rw [q1] at h2
        cases q2 : w.testBit i with
        | true => rfl
        | false => rw [q2] at h2; exact absurd h2 (by decide)
    · rw [Nat.testBit_lt_two_pow (Nat.lt_of_lt_of_le hs (Nat.pow_le_pow_right (n := 2) (by omega) (show 10 ≤ i by omega)))]; rfl
  rw [← this]; exact Nat.and_le_right
section
variable {S0 : xSt} {nd nb hd D : Nat} {hr : Nat → Nat} {x : Int32}
def kN (S0 : xSt) (nb hd D : Nat) (hr : Nat → Nat) (x : Int32) (o : oT) : Nat := (oKp (kvS S0 nb x D hd) hr o.2 o.1).toNatClampNeg
theorem kN_s (hnb : nb ≤ 10) (o : oT) : kN S0 nb hd D hr x o < 2 ^ nb ∧ oKp (kvS S0 nb x D hd) hr o.2 o.1 = nI (kN S0 nb hd D hr x o) := by
  obtain ⟨k, h1, h2⟩ := bits_nb (x := oKp (kvS S0 nb x D hd) hr o.2 o.1) hnb (fun i hi h => by
    cases q : bt (oKp (kvS S0 nb x D hd) hr o.2 o.1) i with
    | false => rfl
    | true => have := (bt_kp hnb hi o.1 q).1; omega)
  have p2 : 2 ^ nb ≤ 1024 := Nat.pow_le_pow_right (n := 2) (by omega) (show nb ≤ 10 by omega)
  have : kN S0 nb hd D hr x o = k := by unfold kN; rw [h2, nCl (by omega)]
  rw [this]; exact ⟨h1, h2⟩
abbrev visM (S0 : xSt) (nb hd D : Nat) (hr : Nat → Nat) (x : Int32) : oT → (Nat → Bool) → (Nat → Bool) := fun o m => setB m (kN S0 nb hd D hr x o)
theorem visM_s (hnb : nb ≤ 10) (o : oT) (m : Nat → Bool) (h : supp (2 ^ nb) m) : supp (2 ^ nb) (visM S0 nb hd D hr x o m) := by
  intro j hj
  have hj : (if j = kN S0 nb hd D hr x o then true else m j) = true := hj
  by_cases y : j = kN S0 nb hd D hr x o
  · rw [y]; exact (kN_s hnb o).1
  · rw [if_neg y] at hj; exact h j hj
def QC (S : xSt) (nb : Nat) (m : Nat → Bool) (q : xSt) : Prop := (∀ c, c ≠ 50 → q.1 c = S.1 c) ∧ ∀ j, j < 2 ^ nb → q.1 50 j = mB (m j)
theorem CO.qc (h : CO S0 nd nb hr x S) {m : Nat → Bool} {q : xSt} (hq : QC S nb m q) : CO S0 nd nb hr x q := by
  obtain ⟨a, b, c, e⟩ := h
  refine ⟨fun c hc => by rw [hq.1 c (by omega)]; exact a c hc, ?_, ?_, ?_⟩
  · rw [hq.1 _ (by decide)]; exact b
  · rw [hq.1 _ (by decide)]; exact c
  · rw [hq.1 _ (by decide)]; exact e
theorem QC.put {m : Nat → Bool} {q : xSt} {k : Nat} (h : QC S nb m q) : QC S nb (setB m k) (x_putI q 50 k (vp_nar .byte 1)) := by
  have e1 : vp_nar .byte 1 = 1 := by decide +kernel
  rw [e1]
  exact ⟨fun c hc => by rw [gI_ne _ _ _ hc]; exact h.1 c hc, by rw [gI_same]; exact mB_up h.2⟩
theorem m_markOrders (hT : CT S0 nd nb hd hr) (hC : CO S0 nd nb hr x S) (hB : S.1 46 4 = nI D) : ∀ n o, oOK nd o → o.1 + n = nd → ∀ dd m q, ∀ K : xSt → Prop, QC S nb m q → (∀ q', QC S nb (fk nd hr (fbS S0 nb x D hd) (visM S0 nb hd D hr x) n o (visM S0 nb hd D hr x o m)) q' → K q') → M_Or_markOrders hc (dd + n + 1) (nI o.1) (nI (sSe o.2 o.1)) (oKp (kvS S0 nb x D hd) hr o.2 o.1) q K := by
  have hnd := hT.1.2
  have hnb := hT.2.1.2
  have p64 := pw64 hnd
  have p2 : 2 ^ nb ≤ 1024 := Nat.pow_le_pow_right (n := 2) (by omega) (show nb ≤ 10 by omega)
  have ed : ∀ m q, QC S nb m q → q.1 2 4 = nI nd := fun m q h => by rw [h.1 2 (by decide), hC.1 2 (by omega)]; exact hT.1.1
  -- into the loop
  have start : ∀ n o dd m q, ∀ K : xSt → Prop, QC S nb m q → (∀ q', QC S nb (visM S0 nb hd D hr x o m) q' → B_Or_markOrders_21 hc (dd + n) (nI o.1) (nI (sSe o.2 o.1)) (oKp (kvS S0 nb x D hd) hr o.2 o.1) 0 q' K) → M_Or_markOrders hc (dd + n + 1) (nI o.1) (nI (sSe o.2 o.1)) (oKp (kvS S0 nb x D hd) hr o.2 o.1) q K := by
    intro n o dd m q K hq go
    obtain ⟨k1, k2⟩ := kN_s (S0 := S0) (D := D) (hd := hd) (hr := hr) (x := x) hnb o
    have go' : ∀ q', QC S nb (visM S0 nb hd D hr x o m) q' → B_Or_markOrders_18 hc (dd + n) (nI o.1) (nI (sSe o.2 o.1)) (oKp (kvS S0 nb x D hd) hr o.2 o.1) q' K := fun q' h => b_Or_markOrders_18 (go q' h)
    rw [k2] at go' ⊢
    refine e_Or_markOrders (br_f (nN0 (by omega)) (br_f (nI_ge (b := 1024) (by omega) (by omega)) ⟨vIn (by omega) (by omega), go' _ ?_⟩))
    rw [nCl (by omega)]
    exact hq.put
  intro n
  induction n with
  | zero =>
    intro o ho hl dd m q K hq H
    refine start 0 o dd m q K hq (fun q' hq' => ?_)
    have hA := sSe_ok ho
    have full : ∀ i, i < nd → (sSe o.2 o.1).testBit i = true := fun i hi => by rw [sSe_t]; exact ho.full (by omega) hi
    have go : ∀ k i, i + k = nd → B_Or_markOrders_21 hc (dd + 0) (nI o.1) (nI (sSe o.2 o.1)) (oKp (kvS S0 nb x D hd) hr o.2 o.1) (nI i) q' K := by
      intro k
      induction k with
      | zero =>
        intro i hi
        exact b_Or_markOrders_21 (br_t (by rw [ed _ _ hq']; exact nI_le (by omega) (by omega)) (H q' hq'))
      | succ k ih =>
        intro i hi
        refine b_Or_markOrders_21 (br_f (by rw [ed _ _ hq']; exact nI_ge (by omega) (by omega)) ?_)
        by_cases c : (6 : Int32) ≤ nI o.1
        · exact br_t c (H q' hq')
        · have e1 : nI (sSe o.2 o.1) ||| (1 : Int32) <<< (nI i &&& 31) = nI (sSe o.2 o.1) := by
            have : sSe o.2 o.1 ||| 2 ^ i = sSe o.2 o.1 := by
              apply Nat.eq_of_testBit_eq
              intro y
              rw [tb_or]
              by_cases z : i = y
              · rw [← z, full i (by omega)]; rfl
              · simp [z]
            rw [show nI (sSe o.2 o.1) ||| (1 : Int32) <<< (nI i &&& 31) = _ from set_or _ (by omega) i (by omega), this]
          refine br_f c (br_t e1 (b_Or_markOrders_70 (br_t rfl (b_Or_markOrders_91 ?_))))
          rw [nI_1]; exact ih (i + 1) (by omega)
    exact go nd 0 (by omega)
  | succ n ih =>
    intro o ho hl dd m q K hq H
    refine start (n + 1) o dd m q K hq (fun q' hq' => ?_)
    have hA := sSe_ok ho
    have kids : ∀ t, t ≤ nd → ∀ m q, QC S nb m q → (∀ q', QC S nb (fki nd hr (fbS S0 nb x D hd) (visM S0 nb hd D hr x) (fk nd hr (fbS S0 nb x D hd) (visM S0 nb hd D hr x) n) o t m) q' → K q') → B_Or_markOrders_21 hc (dd + n + 1) (nI o.1) (nI (sSe o.2 o.1)) (oKp (kvS S0 nb x D hd) hr o.2 o.1) (nI (nd - t)) q K := by
      intro t
      induction t with
      | zero =>
        intro _ m q hq H
        exact b_Or_markOrders_21 (br_t (by rw [ed _ _ hq]; exact nI_le (by omega) (by omega)) (H q hq))
      | succ t iht =>
        intro ht m q hq H
        have e1 : nI (nd - (t + 1)) + 1 = nI (nd - t) := by rw [nI_1, show nd - (t + 1) + 1 = nd - t by omega]
        refine b_Or_markOrders_21 (br_f (by rw [ed _ _ hq]; exact nI_ge (by omega) (by omega)) (br_f (nI_ge (b := 6) (by omega) (by omega)) ?_))
        have eo : nI (sSe o.2 o.1) ||| (1 : Int32) <<< (nI (nd - (t + 1)) &&& 31) = nI (sSe o.2 o.1 ||| 2 ^ (nd - (t + 1))) := set_or _ (by omega) _ (by omega)
        have hlt := or_lt6 hA (show nd - (t + 1) < nd by omega)
        rw [eo]
        have no : ¬ oAl hr (fbS S0 nb x D hd) o (nd - (t + 1)) → ∀ s, B_Or_markOrders_70 hc (dd + n + 1) (nI o.1) (nI (sSe o.2 o.1)) (oKp (kvS S0 nb x D hd) hr o.2 o.1) (nI (nd - (t + 1))) s (-1) q K := by
          intro z s
          rw [fki, if_neg z] at H
          refine b_Or_markOrders_70 (br_t rfl (b_Or_markOrders_91 ?_))
          rw [e1]
          exact iht (by omega) m q hq H
        by_cases c : (sSe o.2 o.1).testBit (nd - (t + 1)) = false
        · have gt := or_gt c
          have hb := hC.qc hq
          refine br_f (fun z => by have := (nEq (by omega) (by omega)).mp z; omega) ⟨vIn (by omega) (by omega), ?_⟩
          have eh : hSe hr (sSe o.2 o.1 ||| 2 ^ (nd - (t + 1))) nd = oHrs hr o.2 o.1 + hr (nd - (t + 1)) := by rw [hSe_or hr c, if_pos (by omega), hSe_s o.1 ho]
          rw [nCl (by omega), hb.2.2.2 _ hlt, eh]
          refine m_keptBy hT hb (by rw [hq.1 _ (by decide)]; exact hB) ?_
          cases f : fbS S0 nb x D hd (nd - (t + 1)) (oHrs hr o.2 o.1 + hr (nd - (t + 1))) with
          | true =>
            rw [if_pos rfl]
            exact no (fun z => by have := z.2; rw [f] at this; exact absurd this (by simp)) _
          | false =>
            rw [if_neg (by simp)]
            have al : oAl hr (fbS S0 nb x D hd) o (nd - (t + 1)) := ⟨by rw [← sSe_t]; exact c, f⟩
            have hp : oOK nd (oPush o (nd - (t + 1))) := ho.push (by omega) al.1
            rw [fki, if_pos al] at H
            obtain ⟨k, hk, ek⟩ := kv_n (S0 := S0) (x := x) (D := D) (hd := hd) hnb (nd - (t + 1)) (oHrs hr o.2 o.1 + hr (nd - (t + 1)))
            refine b_Or_markOrders_70 (br_f (by rw [ek]; exact nM1 (by omega)) ?_)
            have := ih (oPush o (nd - (t + 1))) hp (by show o.1 + 1 + n = nd; omega) dd m q (fun S1 => B_Or_markOrders_91 hc (dd + n + 1) (nI o.1) (nI (sSe o.2 o.1)) (oKp (kvS S0 nb x D hd) hr o.2 o.1) (nI (nd - (t + 1))) S1 K) hq (fun q' hq' => b_Or_markOrders_91 (by rw [e1]; exact iht (by omega) _ q' hq' H))
            rw [sSe_p] at this
            have ekp : oKp (kvS S0 nb x D hd) hr (oPush o (nd - (t + 1))).2 (oPush o (nd - (t + 1))).1 = oKp (kvS S0 nb x D hd) hr o.2 o.1 ||| kvS S0 nb x D hd (nd - (t + 1)) (oHrs hr o.2 o.1 + hr (nd - (t + 1))) := by
              show oKp _ hr (oPush o (nd - (t + 1))).2 o.1 ||| kvS S0 nb x D hd ((oPush o (nd - (t + 1))).2 o.1) (oHrs hr (oPush o (nd - (t + 1))).2 o.1 + hr ((oPush o (nd - (t + 1))).2 o.1)) = _
              rw [oP_t, oKp_c o.1 (oP_b o _), oHrs_c o.1 (oP_b o _)]
            rw [ekp] at this
            rw [nI_1]
            exact this
        · have c : (sSe o.2 o.1).testBit (nd - (t + 1)) = true := by simpa using c
          have same : sSe o.2 o.1 ||| 2 ^ (nd - (t + 1)) = sSe o.2 o.1 := by
            apply Nat.eq_of_testBit_eq
            intro y
            rw [tb_or]
            by_cases z : nd - (t + 1) = y
            · rw [← z, c]; rfl
            · simp [z]
          exact br_t (by rw [same]) (no (fun z => by have := z.1; rw [← sSe_t, c] at this; exact absurd this (by simp)) _)
    have := kids nd (Nat.le_refl _) _ q' hq' H
    rw [Nat.sub_self] at this
    exact this
end
end
