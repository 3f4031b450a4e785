section
variable {hc hm : xH} {d e : Nat} {S M : xSt}
/-- the first day, from day i on and at most k further, on which f is 0 -/
def dLo (f : Nat → Int32) : Nat → Nat → Option Nat
  | 0, _ => none
  | k + 1, i => if f (i + 1) = 0 then some (i + 1) else dLo f k (i + 1)
theorem dLo_le (f : Nat → Int32) : ∀ k i j, dLo f k i = some j → 1 ≤ j ∧ j ≤ i + k := by
  intro k
  induction k with
  | zero => intro i j h; exact absurd h (by unfold dLo; exact fun z => nomatch z)
  | succ k ih =>
    intro i j h
    unfold dLo at h
    by_cases c : f (i + 1) = 0
    · rw [if_pos c] at h; injection h with h; omega
    · rw [if_neg c] at h; have := ih _ _ h; omega
def dC (o : Option Nat) : Int32 := match o with | none => -1 | some j => nI j
def dM (o : Option Nat) : Int32 := match o with | none => 1000000 | some j => nI j
theorem m_daysTillLost {nm nb n b : Nat} {step arg : Nat → Int32} (hW : WP nm nb n step arg S) (hb : b < nb) (h99 : ∃ k, k ≤ 99 ∧ S.1 42 (10 + b) = nI k) {S1 : xSt} (h1 : eq1 S S1) {K : Int32 → xSt → Prop} (H : ∀ S', eq1 S S' → K (dC (dLo (tIt S n step arg b (fun _ => 0)) 60 0)) S') : M_Th_daysTillLost hc d (nI b) S1 K := by
  have hb10 := hW.2.1.2
  have e10 : (10 : Int32) + nI b = nI (10 + b) := by rw [show (10 : Int32) = nI 10 from rfl, nI_add]
  have c10 : ((10 : Int32) + nI b).toNatClampNeg = 10 + b := by rw [e10]; exact nCl (by omega)
  have w23 : vp_in ((10 : Int32) + nI b) 23 := by rw [e10]; exact vIn (by omega) (by omega)
  refine e_Th_daysTillLost (m_Co_threadOf w23 ?_)
  rw [c10, h1 42 (by decide)]
  have run : ∀ k i, i + k = 60 → ∀ q, eq1 S q → (∀ S', eq1 S S' → K (dC (dLo (tIt S n step arg b (fun _ => 0)) k i)) S') → B_Th_daysTillLost_11 hc d (nI b) (tIt S n step arg b (fun _ => 0) i) (nI i) q K := by
    intro k
    induction k with
    | zero => intro i hi q hq H; have : i = 60 := by omega
              subst this; exact b_Th_daysTillLost_11 (br_t (by decide) (H q hq))
    | succ k ih =>
      intro i hi q hq H
      refine b_Th_daysTillLost_11 (br_f (nI_ge (b := 60) (by omega) (by omega)) (m_Co_today (m_worn (hW.congr hq.two) hb (fun f => ?_))))
      rw [hq.hol, nI_1, hq 42 (by decide)]
      have hq2 : eq1 S (x_putA q 17 f) := fun c hc => (gA_n _ _ hc).trans (hq c hc)
      show (0 < tIt S n step arg b (fun _ => 0) (i + 1) → B_Th_daysTillLost_11 hc d (nI b) (tIt S n step arg b (fun _ => 0) (i + 1)) (nI (i + 1)) _ K) ∧ (¬ 0 < tIt S n step arg b (fun _ => 0) (i + 1) → _)
      obtain ⟨t, ht, et⟩ := tIt_N (n := n) (step := step) (arg := arg) (w := fun _ => 0) h99 (i + 1)
      have un : ∀ S', eq1 S S' → K (dC (if tIt S n step arg b (fun _ => 0) (i + 1) = 0 then some (i + 1) else dLo (tIt S n step arg b (fun _ => 0)) k (i + 1))) S' := fun S' h' => H S' h'
      by_cases z : t = 0
      · subst z
        have et0 : tIt S n step arg b (fun _ => 0) (i + 1) = 0 := et
        refine br_f (by rw [et0]; decide) ?_
        have := un _ hq2
        rw [if_pos et0] at this
        exact this
      · have p : 0 < tIt S n step arg b (fun _ => 0) (i + 1) := by rw [et]; exact nI_lt (a := 0) (by omega) (by omega)
        have nz : ¬ tIt S n step arg b (fun _ => 0) (i + 1) = 0 := by rw [et]; exact fun y => z ((nEq (b := 0) (by omega) (by omega)).mp y)
        rw [if_neg nz] at un
        exact br_t p (ih (i + 1) (by omega) _ hq2 un)
  exact run 60 0 rfl S1 h1 H
theorem m_daysOf {nm nb n b : Nat} (hD : MD nm nb n S M) (hN : Row nb (S.1 42) (M.1 34)) (hb : b < nb) {M1 : xSt} (h1 : eqW M M1) {K : Int32 → xSt → Prop} (H : ∀ M', eqW M M' → K (dM (dLo (tIt S n (M.1 5) (M.1 6) b (fun _ => 0)) 60 0)) M') : M_M_daysOf hm e (nI b) M1 K := by
  have hb10 := hD.1.2
  have e10 : (10 : Int32) + nI b = nI (10 + b) := by rw [show (10 : Int32) = nI 10 from rfl, nI_add]
  have c10 : ((10 : Int32) + nI b).toNatClampNeg = 10 + b := by rw [e10]; exact nCl (by omega)
  refine e_M_daysOf ⟨by rw [e10]; exact vIn (by omega) (by omega), ?_⟩
  rw [c10, h1 34 (by decide) (by decide), (hN.1 b hb).2.1]
  have run : ∀ k i, i + k = 60 → ∀ q, eqW M q → (∀ S', eqW M S' → K (dM (dLo (tIt S n (M.1 5) (M.1 6) b (fun _ => 0)) k i)) S') → B_M_daysOf_12 hm e (nI b) (tIt S n (M.1 5) (M.1 6) b (fun _ => 0) i) (nI i) q K := by
    intro k
    induction k with
    | zero => intro i hi q hq H; have : i = 60 := by omega
              subst this; exact b_M_daysOf_12 (br_t (by decide) (H q hq))
    | succ k ih =>
      intro i hi q hq H
      have h99 := tIt_N (n := n) (step := M.1 5) (arg := M.1 6) (w := fun _ => 0) (hN.1 b hb).2.2
      refine b_M_daysOf_12 (br_f (nI_ge (b := 60) (by omega) (by omega)) (m_wearDay hD hb hq (h99 i) _ _ (fun M2 h2 => ?_)))
      rw [nI_1, hq 34 (by decide) (by decide), hN.2.1]
      show (¬ tIt S n (M.1 5) (M.1 6) b (fun _ => 0) (i + 1) = 0 → B_M_daysOf_12 hm e (nI b) (tIt S n (M.1 5) (M.1 6) b (fun _ => 0) (i + 1)) (nI (i + 1)) _ K) ∧ (tIt S n (M.1 5) (M.1 6) b (fun _ => 0) (i + 1) = 0 → _)
      have un : ∀ S', eqW M S' → K (dM (if tIt S n (M.1 5) (M.1 6) b (fun _ => 0) (i + 1) = 0 then some (i + 1) else dLo (tIt S n (M.1 5) (M.1 6) b (fun _ => 0)) k (i + 1))) S' := fun S' h' => H S' h'
      by_cases z : tIt S n (M.1 5) (M.1 6) b (fun _ => 0) (i + 1) = 0
      · refine br_nt z ?_
        have := un _ h2
        rw [if_pos z] at this
        exact this
      · rw [if_neg z] at un
        exact br_nf z (ih (i + 1) (by omega) _ h2 un)
  exact run 60 0 rfl M1 h1 H
/-- who goes first, so far: its number, its days -/
def fiC (on : Nat → Prop) [DecidablePred on] (L : Nat → Option Nat) (b : Nat) (q : Int32 × Int32) : Int32 × Int32 := if on b then (match L b with | none => q | some j => if q.2 ≤ nI j then q else (nI b, nI j)) else q
def fiM (on : Nat → Prop) [DecidablePred on] (L : Nat → Option Nat) (b : Nat) (q : Int32 × Int32) : Int32 × Int32 := if (if on b then dM (L b) else 1000000) < q.2 then (nI b, (if on b then dM (L b) else 1000000)) else q
theorem sim_first (hR : Rel S M) (x1 : Int32) : OK2 Rel (M_O_first hc d x1 S) (M_M_first hm e x1 M) := by
  have hR0 := hR
  obtain ⟨nm, nd, nb, nf, hd, st, hP⟩ := hR
  have hN : Row nb (S.1 42) (M.1 34) := hP.2.2.2.1
  have hb : nb ≤ 10 := hP.1.2.2.1.2
  have eb := hP.1.2.2.1.1
  have em : M.1 0 58 = S.1 2 6 := hP.2.1.1.2.2.1
  obtain ⟨n, hW, hD⟩ := hP.wp
  by_cases a1 : x1 < 0
  · exact e_O_first (br_t a1 (e_M_first (isIn_n (fun z => z.1 a1) (br_nt rfl ⟨rfl, hR0⟩))))
  refine e_O_first (br_f a1 ?_)
  by_cases a4 : x1 ≤ 1
  case neg =>
    refine br_f a4 (e_M_first (isIn_n (fun z => a4 ?_) (br_nt rfl ⟨rfl, hR0⟩)))
    have := z.2
    rw [Int32.lt_iff_toInt_lt] at this
    rw [Int32.le_iff_toInt_le]; omega
  have a4' : ¬ 1 < x1 := by rw [Int32.lt_iff_toInt_lt]; rw [Int32.le_iff_toInt_le] at a4; omega
  refine br_t a4 ?_
  let on : Nat → Prop := fun b => S.1 42 b = 0
  let L : Nat → Option Nat := fun b => dLo (tIt S n (M.1 5) (M.1 6) b (fun _ => 0)) 60 0
  have hL : ∀ b j, L b = some j → 1 ≤ j ∧ j ≤ 60 := fun b j h => by have := dLo_le _ _ _ _ h; omega
  have hrel : (fo (fiM on L) nb (-1, 1000000)).1 = (fo (fiC on L) nb (-1, 61)).1 ∧ (((fo (fiC on L) nb (-1, 61)).1 = -1 ∧ (fo (fiC on L) nb (-1, 61)).2 = 61 ∧ (fo (fiM on L) nb (-1, 1000000)).2 = 1000000) ∨ (∃ b j, b < 10 ∧ j ≤ 60 ∧ (fo (fiC on L) nb (-1, 61)).1 = nI b ∧ (fo (fiC on L) nb (-1, 61)).2 = nI j ∧ (fo (fiM on L) nb (-1, 1000000)).2 = nI j)) := by
    refine fo_rel (fun (a : Int32 × Int32) (c : Int32 × Int32) => c.1 = a.1 ∧ ((a.1 = -1 ∧ a.2 = 61 ∧ c.2 = 1000000) ∨ (∃ b j, b < 10 ∧ j ≤ 60 ∧ a.1 = nI b ∧ a.2 = nI j ∧ c.2 = nI j))) (fun i hi a c hac => ?_) ⟨rfl, Or.inl ⟨rfl, rfl, rfl⟩⟩
    obtain ⟨h1, h2⟩ := hac
    have big : ¬ (1000000 : Int32) < c.2 := by
      rcases h2 with h2 | ⟨b, j, -, hj, -, -, h2⟩
      · rw [h2.2.2]; decide
      · rw [h2, show (1000000 : Int32) = nI 1000000 from rfl, nLt (by omega) (by omega)]; omega
    by_cases o : on i
    · cases hLi : L i with
      | none =>
        have eC : fiC on L i a = a := by unfold fiC; rw [if_pos o, hLi]
        have eM : fiM on L i c = c := by unfold fiM; rw [if_pos o, hLi, if_neg (show ¬ dM none < c.2 from big)]
        rw [eC, eM]; exact ⟨h1, h2⟩
      | some j =>
        have hj := hL i j hLi
        have eC : fiC on L i a = if a.2 ≤ nI j then a else (nI i, nI j) := by unfold fiC; rw [if_pos o, hLi]
        have eM : fiM on L i c = if nI j < c.2 then (nI i, nI j) else c := by unfold fiM; rw [if_pos o, hLi]; rfl
        rw [eC, eM]
        have iff : nI j < c.2 ↔ ¬ a.2 ≤ nI j := by
          rcases h2 with h2 | ⟨b, j', -, hj', -, h2, h3⟩
          · rw [h2.2.1, h2.2.2, show (1000000 : Int32) = nI 1000000 from rfl, show (61 : Int32) = nI 61 from rfl, nLt (by omega) (by omega), nLe (by omega) (by omega)]; omega
          · rw [h2, h3, nLt (by omega) (by omega), nLe (by omega) (by omega)]; omega
        by_cases c1 : nI j < c.2
        · rw [if_pos c1, if_neg (iff.mp c1)]
          exact ⟨rfl, Or.inr ⟨i, j, by omega, hj.2, rfl, rfl, rfl⟩⟩
        · have c2 : a.2 ≤ nI j := by
            by_cases q : a.2 ≤ nI j
            · exact q
            · exact absurd (iff.mpr q) c1
          rw [if_neg c1, if_pos c2]
          exact ⟨h1, h2⟩
    · unfold fiC fiM
      rw [if_neg o, if_neg o, if_neg big]; exact ⟨h1, h2⟩
  refine lp_inv (B := fun i (q : xSt) => B_O_first_19 hc d x1 (fo (fiC on L) i (-1, 61)).1 (fo (fiC on L) i (-1, 61)).2 (nI i) q _) (fun i q => eq1 S q) nb (fun i q hi hI ih => ?_) (fun q hI => ?_) S (fun c _ => rfl)
  · refine b_O_first_19 (br_f (by rw [hI 2 (by decide), eb]; exact nI_ge hi (by omega)) (m_Co_isOn (vIn (by omega) (by omega)) ?_))
    rw [nCl (by omega), hI 42 (by decide)]
    have ih' : ∀ b', eq1 S b' → B_O_first_19 hc d x1 (fiC on L i (fo (fiC on L) i (-1, 61))).1 (fiC on L i (fo (fiC on L) i (-1, 61))).2 (nI (i + 1)) b' _ := ih
    generalize fo (fiC on L) i (-1, 61) = a at ih' ⊢
    by_cases o : on i
    · rw [bi_pos o]
      unfold fiC at ih'
      rw [if_pos o] at ih'
      refine br_f (by decide) (m_daysTillLost hW hi (hN.1 i hi).2.2 hI (fun S2 h2 => ?_))
      show B_O_first_56 hc d x1 a.1 a.2 (nI i) (dC (L i)) S2 _
      cases hLi : L i with
      | none => rw [hLi] at ih'; refine b_O_first_56 (br_t rfl (b_O_first_76 ?_)); rw [nI_1]; exact ih' S2 h2
      | some j =>
        rw [hLi] at ih'
        have hj := hL i j hLi
        refine b_O_first_56 (br_f (nM1 (by omega)) ?_)
        have ih2 : ∀ b', eq1 S b' → B_O_first_19 hc d x1 (if a.2 ≤ nI j then a else (nI i, nI j)).1 (if a.2 ≤ nI j then a else (nI i, nI j)).2 (nI (i + 1)) b' _ := ih'
        by_cases c : a.2 ≤ nI j
        · rw [if_pos c] at ih2
          refine br_t c (b_O_first_76 ?_); rw [nI_1]; exact ih2 S2 h2
        · rw [if_neg c] at ih2
          refine br_f c (b_O_first_76 ?_); rw [nI_1]; exact ih2 S2 h2
    · rw [bi_neg o]
      unfold fiC at ih'
      rw [if_neg o] at ih'
      refine br_t rfl (b_O_first_56 (br_t rfl (b_O_first_76 ?_)))
      rw [nI_1]; exact ih' q hI
  · refine b_O_first_19 (br_t (by rw [hI 2 (by decide), eb]; exact nI_le (Nat.le_refl _) (by omega)) ?_)
    have ref : ∀ r, ((fo (fiM on L) nb (-1, 1000000)).1 < 0 → r = -1) → (0 ≤ (fo (fiM on L) nb (-1, 1000000)).1 → (¬ x1 = 0 → r = (fo (fiM on L) nb (-1, 1000000)).2) ∧ (x1 = 0 → r = (fo (fiM on L) nb (-1, 1000000)).1)) → M_M_first hm e x1 M (fun r' M' => r' = r ∧ Rel q M') := by
      intro r r1 r2
      refine e_M_first (isIn_y ⟨a1, a4'⟩ (br_nf (by decide) ?_))
      refine lp_inv (B := fun i (q : xSt) => B_M_first_20 hm e x1 (fo (fiM on L) i (-1, 1000000)).1 (fo (fiM on L) i (-1, 1000000)).2 (nI i) q _) (fun i q => eqW M q) nb (fun i q3 hi hI3 ih => ?_) (fun q2 hI2 => ?_) M (fun c _ _ => rfl)
      · refine b_M_first_20 (br_f (by rw [hI3 0 (by decide) (by decide), em, eb]; exact nI_ge hi (by omega)) (m_M_isOn (vIn (by omega) (by omega)) ?_))
        rw [nCl (by omega), hI3 34 (by decide) (by decide), (hN.1 i hi).1]
        have ih' : ∀ b', eqW M b' → B_M_first_20 hm e x1 (fiM on L i (fo (fiM on L) i (-1, 1000000))).1 (fiM on L i (fo (fiM on L) i (-1, 1000000))).2 (nI (i + 1)) b' _ := ih
        generalize fo (fiM on L) i (-1, 1000000) = a at ih' ⊢
        have cont : ∀ v q2, eqW M q2 → v = (if on i then dM (L i) else 1000000) → B_M_first_50 hm e x1 a.1 a.2 (nI i) v q2 (fun r' M' => r' = r ∧ Rel q M') := by
          intro v q2 h2 hv
          unfold fiM at ih'
          rw [← hv] at ih'
          by_cases c : v < a.2
          · rw [if_pos c] at ih'
            refine b_M_first_50 (br_t c (b_M_first_67 ?_)); rw [nI_1]; exact ih' q2 h2
          · rw [if_neg c] at ih'
            refine b_M_first_50 (br_f c (b_M_first_67 ?_)); rw [nI_1]; exact ih' q2 h2
        by_cases o : on i
        · rw [bi_pos o]
          exact br_f (by decide) (m_daysOf hD hN hi hI3 (fun M2 h2 => cont _ M2 h2 (by rw [if_pos o])))
        · rw [bi_neg o]
          exact br_t rfl (cont _ q3 hI3 (by rw [if_neg o]))
      · refine b_M_first_20 (br_t (by rw [hI2 0 (by decide) (by decide), em, eb]; exact nI_le (Nat.le_refl _) (by omega)) ?_)
        have fin : Rel q q2 := ⟨nm, nd, nb, nf, hd, st, hP.eq1W hI hI2⟩
        by_cases c : 0 ≤ (fo (fiM on L) nb (-1, 1000000)).1
        · refine br_t c ?_
          obtain ⟨u1, u2⟩ := r2 c
          by_cases z : x1 = 0
          · exact br_nt z ⟨(u2 z).symm, fin⟩
          · exact br_nf z ⟨(u1 z).symm, fin⟩
        · refine br_f c ⟨(r1 ?_).symm, fin⟩
          rw [Int32.lt_iff_toInt_lt]; rw [Int32.le_iff_toInt_le] at c; omega
    obtain ⟨g1, g2⟩ := hrel
    rcases g2 with ⟨k1, k2, k3⟩ | ⟨b, j, hb', hj, k1, k2, k3⟩
    · refine br_nt k1 (ref _ (fun _ => rfl) (fun z => ?_))
      rw [g1, k1] at z
      exact absurd z (by decide)
    · refine br_nf (by rw [k1]; exact nM1 (by omega)) ?_
      have nn : ¬ (fo (fiM on L) nb (-1, 1000000)).1 < 0 := by rw [g1, k1]; exact nN0 (by omega)
      by_cases z : x1 = 0
      · exact br_nt z (ref _ (fun y => absurd y nn) (fun _ => ⟨fun y => absurd z y, fun _ => g1.symm⟩))
      · exact br_nf z (ref _ (fun y => absurd y nn) (fun _ => ⟨fun _ => by rw [k2, k3], fun y => absurd y z⟩))
end
