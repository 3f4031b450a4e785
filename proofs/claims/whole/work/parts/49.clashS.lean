section
variable {hc hm : xH} {d e : Nat} {S M : xSt}
def FrC (M M' : xSt) : Prop := (∀ c, c ≠ 0 → c ≠ 38 → c ≠ 39 → c ≠ 40 → c ≠ 43 → M'.1 c = M.1 c) ∧ ∀ j, j < 79 ∨ 80 < j → M'.1 0 j = M.1 0 j
theorem FrC.tr {M1 M2 M3 : xSt} (h : FrC M1 M2) (g : FrC M2 M3) : FrC M1 M3 := ⟨fun c a b c1 d e => (g.1 c a b c1 d e).trans (h.1 c a b c1 d e), fun j a => (g.2 j a).trans (h.2 j a)⟩
theorem FrO.c {M1 M2 : xSt} (h : FrO M1 M2) : FrC M1 M2 := ⟨fun c a b c1 d _ => h.1 c a b c1 d, fun j a => h.2 j (by omega)⟩
theorem FrC.k {M1 M2 : xSt} (h : ∀ c, c ≠ 43 → M2.1 c = M1.1 c) : FrC M1 M2 := ⟨fun c _ _ _ _ e => h c e, fun j _ => by rw [h 0 (by decide)]⟩
def KM (m : Nat → Bool) (q : xSt) : Prop := ∀ j, j < 1024 → q.1 43 j = mB (m j)
theorem KM.put {m : Nat → Bool} {q : xSt} {k : Nat} (h : KM m q) : KM (setB m k) (x_putI q 43 k (vp_nar .boolean 1)) := by
  have e1 : vp_nar .boolean 1 = 1 := by decide +kernel
  rw [e1]
  intro j hj
  rw [gI_same]; exact mB_up h j hj
section
variable {S0 : xSt} {nd nb hd D : Nat} {hr : Nat → Nat} {x : Int32}
theorem m_down {K : xSt → Prop} : ∀ s, s < 1024 → ∀ m q, KM m q → (∀ q', (∀ c, c ≠ 43 → q'.1 c = q.1 c) → KM (clD 10 s m) q' → K q') → B_M_layCanKeep_75 hm e (nI s) q K := by
  intro s
  induction s with
  | zero => intro _ m q hq H; exact b_M_layCanKeep_75 (br_t (by decide) (H q (fun _ _ => rfl) hq))
  | succ s ih =>
    intro hs m q hq H
    refine b_M_layCanKeep_75 (br_f (fun z => by have := (nLe (b := 0) (by omega) (by omega)).mp z; omega) ⟨vIn (by omega) (by omega), ?_⟩)
    rw [nCl (by omega), hq _ hs]
    have nx : ∀ m' q', (∀ c, c ≠ 43 → q'.1 c = q.1 c) → KM m' q' → m' = clS 10 (s + 1) m → B_M_layCanKeep_115 hm e (nI (s + 1)) q' K := by
      intro m' q' f' h' em
      refine b_M_layCanKeep_115 ?_
      rw [add_m1, nI_pred]
      refine ih (by omega) m' q' h' (fun q2 g1 g2 => H q2 (fun c hc => (g1 c hc).trans (f' c hc)) ?_)
      rw [em] at g2; exact g2
    by_cases c : m (s + 1) = true
    · refine br_f (by rw [c]; decide) ?_
      refine lp_inv (B := fun i (q : xSt) => B_M_layCanKeep_90 hm e (nI (s + 1)) (nI i) q K) (fun i q' => (∀ c, c ≠ 43 → q'.1 c = q.1 c) ∧ KM (fo (clF (s + 1)) i m) q') 10 (fun i q' hi hI ih2 => ?_) (fun q' hI => ?_) q ⟨fun _ _ => rfl, hq⟩
      · have := clr_le (s + 1) i
        refine b_M_layCanKeep_90 (br_f (nI_ge (b := 10) hi (by omega)) ?_)
        rw [clr_e (s + 1) (by omega) i (by omega), nI_1]
        refine ⟨vIn (by omega) (by omega), ih2 _ ?_⟩
        rw [nCl (by omega)]
        exact ⟨fun c hc => by rw [gI_ne _ _ _ hc]; exact hI.1 c hc, hI.2.put⟩
      · exact b_M_layCanKeep_90 (br_t (by decide) (nx _ q' hI.1 hI.2 (by unfold clS; rw [if_pos c])))
    · have c' : m (s + 1) = false := by simpa using c
      exact br_t ((mB0 _).mpr c') (nx m q (fun _ _ => rfl) hq (by unfold clS; rw [if_neg c]))
theorem m_layCan {T : Nat} (hday : M.1 34 20 = nI T) (hC : ∀ q, (∀ c, c ≠ 0 → c < 38 → q.1 c = M.1 c) → (∀ j, j < 79 → q.1 0 j = M.1 0 j) → q.1 0 80 = nI T → CM S0 nd nb hd T hr q) (hnb : nb ≤ 10) {K : xSt → Prop} (H : ∀ M', FrC M M' → KM (mKp S0 nd nb hd T hr x) M' → K M') : M_M_layCanKeep hm e x M K := by
  have p2 : 2 ^ nb ≤ 1024 := Nat.pow_le_pow_right (n := 2) (by omega) (show nb ≤ 10 by omega)
  refine e_M_layCanKeep ?_
  refine lp_inv (B := fun i (q : xSt) => B_M_layCanKeep_2 hm e x (nI i) q K) (fun i q => (∀ c, c ≠ 43 → q.1 c = M.1 c) ∧ ∀ j, j < i → q.1 43 j = mB (mF0 j)) 1024 (fun i q hi hI ih => ?_) (fun q hI => ?_) M ⟨fun _ _ => rfl, fun j hj => absurd hj (Nat.not_lt_zero _)⟩
  · obtain ⟨q1, q2⟩ := hI
    have nx : ∀ v : Int32, vp_nar .boolean v = mB (mF0 i) → B_M_layCanKeep_23 hm e x (nI i) v (nI i) q K := by
      intro v hv
      refine b_M_layCanKeep_23 ⟨vIn (by omega) (by omega), ?_⟩
      rw [nCl (by omega), nI_1, hv]
      refine ih _ ⟨fun c hc => by rw [gI_ne _ _ _ hc]; exact q1 c hc, fun j hj => ?_⟩
      rw [gI_same]
      by_cases y : j = i
      · rw [y, up_s]
      · rw [up_n _ _ y]; exact q2 j (by omega)
    refine b_M_layCanKeep_2 (br_f (nI_ge (b := 1024) hi (by omega)) ?_)
    by_cases z : i = 0
    · subst z
      exact br_nt rfl (nx 1 (by decide +kernel))
    · refine br_nf (fun y => z ((nEq (b := 0) (by omega) (by omega)).mp y)) (nx 0 ?_)
      have : mF0 i = false := by simp [z]
      rw [this]; decide +kernel
  · obtain ⟨q1, q2⟩ := hI
    refine b_M_layCanKeep_2 (br_t (by decide) (e_M_beginOrder ?_))
    have ed : q.1 34 20 = nI T := by rw [q1 _ (by decide)]; exact hday
    rw [ed]
    have fin : ∀ M1 : xSt, FrC M M1 → M1.1 0 80 = nI T → SKo (kvS S0 nb x T hd) hr oZ M1 → KM mF0 M1 → B_M_layCanKeep_45 hm e x M1 K := by
      intro M1 f1 b1 k1 km
      have cm : ∀ q, FrC M q → q.1 0 80 = nI T → CM S0 nd nb hd T hr q := fun q h1 h2 => hC q (fun c c0 c1 => h1.1 c c0 (by show c ≠ 38; omega) (by show c ≠ 39; omega) (by show c ≠ 40; omega) (by show c ≠ 43; omega)) (fun j hj => h1.2 j (Or.inl hj)) h2
      refine b_M_layCanKeep_45 ?_
      refine dfs (S0 := S0) (nd := nd) (nb := nb) (hd := hd) (D := T) (hr := hr) (x := x) (visM S0 nb hd T hr x) (fun _ _ _ => True) (fun b q => FrC M q ∧ q.1 0 80 = nI T ∧ KM b q) _ (fun b q q' h fr => ?_) (fun b q h => cm q h.1 h.2.1) (fun _ _ _ _ => trivial) (fun _ _ _ _ => trivial) (fun _ _ _ _ _ => trivial) (fun b o d q ho _ hs hS go => ?_) nd oZ oZ_ok (by show 0 + nd = nd; omega) mF0 (fun q hs hS _ => ?_) M1 k1 ⟨f1, b1, km⟩ trivial
      · obtain ⟨h1, h2, h3⟩ := h
        refine ⟨h1.tr fr.c, by rw [fr.2 80 (by decide)]; exact h2, ?_⟩
        unfold KM
        rw [fr.1 43 (by decide) (by decide) (by decide) (by decide)]; exact h3
      · obtain ⟨h1, h2, h3⟩ := hS
        have hol := ho.le
        have hnd := (cm q h1 h2).1.2
        obtain ⟨kn1, kn2⟩ := kN_s (S0 := S0) (D := T) (hd := hd) (hr := hr) (x := x) hnb (oPush o d)
        obtain ⟨s1, s2, s3, s4⟩ := hs
        refine br_f (by decide) ?_
        rw [s1, nCl (by omega), s4 _ (Nat.le_refl _), kn2]
        refine ⟨vIn (by omega) (by omega), vIn (by omega) (by omega), b_M_layCanKeep_45 (go _ ⟨s1, s2, s3, s4⟩ ⟨h1.tr (FrC.k (fun c hc => gI_ne _ _ _ hc)), h2, ?_⟩)⟩
        rw [nCl (by omega)]
        exact h3.put
      · obtain ⟨h1, h2, h3⟩ := hS
        refine b_M_nextOrder_27 (br_t (by rw [hs.1]; decide) (br_t rfl ?_))
        refine m_down 1023 (by omega) _ q h3 (fun q' g1 g2 => H q' (h1.tr (FrC.k g1)) ?_)
        rw [clD_eq hnb (mK1 hnb)] at g2
        exact g2
    refine fin _ ⟨fun c c0 c1 c2 c3 c4 => ?_, fun j hj => ?_⟩ rfl ⟨rfl, fun j hj => absurd hj (Nat.not_lt_zero _), fun j hj => ?_, fun j hj => ?_⟩ (fun j hj => q2 j hj)
    · rw [gI_ne _ _ _ c3, gI_ne _ _ _ c2, gI_ne _ _ _ c0, gI_ne _ _ _ c0]; exact q1 c c4
    · show upd (upd (q.1 0) 80 _) 79 _ j = _
      rw [up_n _ _ (by omega), up_n _ _ (by omega), q1 0 (by decide)]
    · have : j = 0 := by have hj : j ≤ 0 := hj; omega
      subst this; rfl
    · have : j = 0 := by have hj : j ≤ 0 := hj; omega
      subst this; rfl
theorem m_clashM {m : Nat → Bool} {x1 x2 : Int32} {w : Nat} (hb : M.1 0 58 = nI nb) (hnb : nb ≤ 10) (hbt : ∀ b, b < nb → M.1 34 b = S0.1 42 b ∧ M.1 26 b = S0.1 7 b ∧ M.1 33 b = S0.1 10 b) (hw : w < 2 ^ nb) (ew : wT S0 nb x1 = nI w) (hm' : KM m M) {K : Int32 → xSt → Prop} (H : (fcD m w w = none → K (-1) M) ∧ (∀ k, k < 1024 → fcD m w w = some k → ((¬ x2 = 0 → K (nI k) M) ∧ (x2 = 0 → K (nI (pcI (nI k))) M)))) : B_M_clash_29 hm e x1 x2 0 0 M K := by
  have p2 : 2 ^ nb ≤ 1024 := Nat.pow_le_pow_right (n := 2) (by omega) (show nb ≤ 10 by omega)
  have srch : B_M_clash_94 hm e x2 (nI w) (-1) 1 M K := by
    have go : ∀ k s, s + k = w → B_M_clash_94 hm e x2 (nI w) (oI (fcD m w s)) (nI (s + 1)) M K := by
      intro k
      induction k with
      | zero =>
        intro s hs
        have : s = w := by omega
        subst this
        have flt := fcD_lt (m := m) (w := s) s
        refine b_M_clash_94 (br_t ((nLt (by omega) (by omega)).mpr (by omega)) ?_)
        obtain ⟨H1, H2⟩ := H
        cases f : fcD m s s with
        | none => exact br_f (by decide) (H1 f)
        | some k0 =>
          have := flt k0 f
          obtain ⟨a, b⟩ := H2 k0 (by omega) f
          exact br_t (nL0 (by omega)) ⟨a, fun z => m_members _ (b z)⟩
      | succ k ih =>
        intro s hs
        have nx : ∀ f, f = fcS m w (s + 1) (fcD m w s) → B_M_clash_141 hm e x2 (nI w) (oI f) (nI (s + 1)) M K := by
          intro f hf
          refine b_M_clash_141 ?_
          rw [nI_1, hf]
          exact ih (s + 1) (by omega)
        have flt := fcD_lt (m := m) (w := w) s
        refine b_M_clash_94 (br_f (fun z => by have := (nLt (by omega) (by omega)).mp z; omega) ?_)
        unfold fcS at nx
        generalize fcD m w s = f at *
        by_cases a1 : nI (s + 1) &&& (nI w ^^^ (-1)) = 0
        · refine br_nt a1 ⟨vIn (by omega) (by omega), ?_⟩
          rw [nCl (by omega), hm' _ (by omega)]
          by_cases a2 : m (s + 1) = false
          · refine br_nt ((mB0 _).mpr a2) ?_
            cases f with
            | none => exact br_t (by decide) (b_M_clash_137 (nx (some (s + 1)) (by rw [if_pos ⟨⟨a1, a2⟩, rfl⟩])))
            | some k0 =>
              have := flt k0 rfl
              have l1 := pcI_le (nI (s + 1))
              have l2 := pcI_le (nI k0)
              refine br_f (nN0 (by omega)) (m_members _ (m_members (nI k0) ?_))
              by_cases a3 : pcI (nI (s + 1)) < pcI (nI k0)
              · exact br_f (nI_ge a3 (by omega)) (b_M_clash_137 (nx (some (s + 1)) (by rw [if_pos ⟨⟨a1, a2⟩, decide_eq_true a3⟩])))
              · exact br_t (nI_le (by omega) (by omega)) (nx (some k0) (by rw [if_neg (fun z => a3 (of_decide_eq_true z.2))]))
          · exact br_nf (fun y => a2 ((mB0 _).mp y)) (nx f (by rw [if_neg (fun z => a2 z.1.2)]))
        · exact br_nf a1 (nx f (by rw [if_neg (fun z => a1 z.1.1)]))
    exact go w 0 (by omega)
  refine lp_up (B := fun i (a : Int32) => B_M_clash_29 hm e x1 x2 a (nI i) M K) (fun b a => if onM S0 x1 b ∧ ¬ S0.1 10 b = 0 then a ||| oneAt (nI b) else a) nb (fun i a hi ih => ?_) 0 ?_
  · obtain ⟨h1, h2, h3⟩ := hbt i hi
    have no : ¬ (onM S0 x1 i ∧ ¬ S0.1 10 i = 0) → B_M_clash_73 hm e x1 x2 (nI i) a M K := by
      intro z
      rw [if_neg z] at ih
      refine b_M_clash_73 (b_M_clash_74 (truth0 ?_))
      rw [or_z, nI_1]; exact ih
    refine b_M_clash_29 (br_f (by rw [hb]; exact nI_ge hi (by omega)) (m_M_isOn (vIn (by omega) (by omega)) ?_))
    rw [nCl (by omega), h1, h2, h3]
    by_cases k1 : S0.1 42 i = 0
    · rw [bi_pos k1]
      refine br_f (by decide) ⟨vIn (by omega) (by omega), ?_⟩
      by_cases k2 : S0.1 7 i = x1
      · refine br_nt k2 ⟨vIn (by omega) (by omega), ?_⟩
        by_cases k3 : S0.1 10 i = 0
        · exact br_t k3 (no (fun z => z.2 k3))
        · rw [if_pos ⟨⟨k1, k2⟩, k3⟩] at ih
          refine br_f k3 (b_M_clash_74 (truth1 ?_))
          rw [nI_1]; exact ih
      · exact br_nf k2 (no (fun z => k2 z.1.2))
    · rw [bi_neg k1]; exact br_t rfl (no (fun z => k1 z.1.1))
  · refine b_M_clash_29 (br_t (by rw [hb]; exact nI_le (Nat.le_refl _) (by omega)) ?_)
    show B_M_clash_94 hm e x2 (wT S0 nb x1) (-1) 1 M K
    rw [ew]; exact srch
end
theorem sim_clash (hR : Rel S M) (x1 x2 : Int32) : OK2 Rel (M_O_clash hc d x1 x2 S) (M_M_clash hm e x1 x2 M) := by
  have rl := hR
  obtain ⟨nm, nd, nb, nf, hd, st, hP⟩ := hR
  have tm := hP.1.1
  have mm : M.1 0 56 = S.1 2 0 := hP.2.1.1.1
  refine e_O_clash ?_
  rcases outC x1 tm.1 (by omega) with c | ⟨j, hj, rfl, c1, c2⟩
  · exact hMan_n c (br_t rfl (e_M_clash (isMan_n tm.1 mm (by omega) c (br_t rfl ⟨rfl, rl⟩))))
  · refine hMan_y c1 c2 (br_f (by decide) ?_)
    by_cases c3 : x2 < 0
    · exact br_t c3 (e_M_clash (isMan_y tm.1 mm (by omega) c1 c2 (br_f (by decide) (isIn_n (fun z => z.1 c3) (br_nt rfl ⟨rfl, rl⟩)))))
    · refine br_f c3 ?_
      by_cases c4 : x2 ≤ 1
      · obtain ⟨T, hT1, hT2⟩ := hP.2.2.2.1.2.2.2.2.1
        have hday : M.1 34 20 = nI T := by rw [hP.2.2.2.1.2.1]; exact hT2
        have hct := hP.ct
        have hnd := hct.1.2
        have hnb := hct.2.1.2
        have p2 : 2 ^ nb ≤ 1024 := Nat.pow_le_pow_right (n := 2) (by omega) (show nb ≤ 10 by omega)
        obtain ⟨w, hw, ew⟩ := wT_s (S0 := S) (x := nI j) hnb
        have hp : ∀ b, b < nb → S.1 10 b = 0 ∨ S.1 10 b = 1 := fun b hb => (hP.1.2.2.2.2.2.2.2.2.1 b hb).2.2.2.1
        refine br_t c4 (m_lookAt hct.1.1 hnd hct.2.1.1 hnb (fun d h => (hct.2.2.2 d h).1) (fun c _ => rfl) (fun S2 k2 => m_Co_today ?_))
        have e20 : S2.1 42 20 = nI T := by rw [k2.1 _ (by decide)]; exact hT2
        rw [e20]
        refine m_smallest hct hp k2 hw ew (fun q hq => ?_)
        have ref : ∀ K, (∀ M', Rel q M' → (fcD (mKp S nd nb hd T (hrS S) (nI j)) w w = none → K (-1) M') ∧ (∀ k, k < 1024 → fcD (mKp S nd nb hd T (hrS S) (nI j)) w w = some k → ((¬ x2 = 0 → K (nI k) M') ∧ (x2 = 0 → K (nI (pcI (nI k))) M')))) → M_M_clash hm e (nI j) x2 M K := by
          intro K hK
          refine e_M_clash (isMan_y tm.1 mm (by omega) c1 c2 (br_f (by decide) (isIn_y ⟨c3, fun z => (nle_lt.mpr z) c4⟩ (br_nf (by decide) (m_layCan (S0 := S) (nd := nd) (nb := nb) (hd := hd) (hr := hrS S) hday (fun q h1 h2 h3 => hP.cm h1 h2 h3) hnb (fun M' f1 k1 => ?_))))))
          have hcm := hP.cm (q := x_putI M 0 80 (nI T)) (D := T) (fun c h0 h1 => gI_ne _ _ _ h0) (fun j hj => by rw [gI_same, up_n _ _ (by omega)]) (by rw [gI_same, up_s])
          have hbt := hcm.2.2.2.2.2
          have eb : M'.1 0 58 = nI nb := by rw [f1.2 58 (by decide)]; exact hcm.2.1.1
          have z1 : ∀ c, c ∈ rC → c < 46 ∨ 51 < c := by decide
          have z2 : ∀ c, c ∈ rM → c ≠ 0 ∧ c ≠ 38 ∧ c ≠ 39 ∧ c ≠ 40 ∧ c ≠ 43 := by decide
          have z3 : ∀ j, j ∈ rJ → j < 79 ∨ 80 < j := by decide
          have rl' : Rel q M' := ⟨nm, nd, nb, nf, hd, st, hP.same (fun c hc => hq c (z1 c hc)) (hq _ (by decide)) (hq _ (by decide)) (hq _ (by decide)) (fun c hc => f1.1 c (z2 c hc).1 (z2 c hc).2.1 (z2 c hc).2.2.1 (z2 c hc).2.2.2.1 (z2 c hc).2.2.2.2) (fun j hj => f1.2 j (z3 j hj)) (f1.1 _ (by decide) (by decide) (by decide) (by decide) (by decide)) (f1.1 _ (by decide) (by decide) (by decide) (by decide) (by decide)) (f1.2 _ (by decide)) (f1.2 _ (by decide))⟩
          refine m_clashM (S0 := S) eb hnb (fun b hb => ?_) hw ew k1 (hK M' rl')
          obtain ⟨a1, a2, a3, a4, a5⟩ := hbt b hb
          rw [f1.1 34 (by decide) (by decide) (by decide) (by decide) (by decide), f1.1 26 (by decide) (by decide) (by decide) (by decide) (by decide), f1.1 33 (by decide) (by decide) (by decide) (by decide) (by decide)]
          exact ⟨a1, a2, a4⟩
        have flt := fcD_lt (m := mKp S nd nb hd T (hrS S) (nI j)) (w := w) w
        cases f : fcD (mKp S nd nb hd T (hrS S) (nI j)) w w with
        | none =>
          refine br_nt rfl (ref _ (fun M' r' => ⟨fun _ => ⟨rfl, r'⟩, fun k _ hk => ?_⟩))
          rw [f] at hk; exact absurd hk (by simp)
        | some k0 =>
          have hk0 := flt k0 f
          have inj : ∀ k, fcD (mKp S nd nb hd T (hrS S) (nI j)) w w = some k → k = k0 := fun k hk => by rw [f] at hk; injection hk with hk; exact hk.symm
          refine br_nf (nM1 (by omega)) ?_
          by_cases c5 : x2 = 0
          · refine br_nt c5 (m_bitC rfl (by omega) (ref _ (fun M' r' => ⟨fun z => ?_, fun k _ hk => ⟨fun z => absurd c5 z, fun _ => ?_⟩⟩)))
            · rw [f] at z; exact absurd z (by simp)
            · rw [inj k hk]; exact ⟨rfl, r'⟩
          · refine br_nf c5 (ref _ (fun M' r' => ⟨fun z => ?_, fun k _ hk => ⟨fun _ => ?_, fun z => absurd z c5⟩⟩))
            · rw [f] at z; exact absurd z (by simp)
            · rw [inj k hk]; exact ⟨rfl, r'⟩
      · exact br_f c4 (e_M_clash (isMan_y tm.1 mm (by omega) c1 c2 (br_f (by decide) (isIn_n (fun z => z.2 (nle_lt.mp c4)) (br_nt rfl ⟨rfl, rl⟩)))))
end
