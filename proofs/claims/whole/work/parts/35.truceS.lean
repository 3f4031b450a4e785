section
variable {hc hm : xH} {d e : Nat} {S M : xSt}
theorem m_layOut {r k : Nat} (hr : layC[r]? = some (.inl (0, 6))) (hr1 : r ≠ 0) (hr2 : r ≠ 63) (hk : k ≤ 6) {K : xSt → Prop} (H : ∀ S', (∀ c, c ≠ 0 → c ≠ 63 → S'.1 c = S.1 c) → (∀ j, j ≠ 11 → S'.1 0 j = S.1 0 j) → S'.1 0 11 = nI k → (∀ j, j < k → S'.1 63 j = S.1 r j) → K S') : M_O_layOut hc d r (nI k) S K := by
  refine e_O_layOut hr ?_
  refine lp_inv (B := fun i (q : xSt) => B_O_layOut_7 hc d r (nI k) (nI i) q K) (fun i q => (∀ c, c ≠ 0 → c ≠ 63 → q.1 c = S.1 c) ∧ (∀ j, j ≠ 11 → q.1 0 j = S.1 0 j) ∧ q.1 0 11 = nI i ∧ (∀ j, j < i → q.1 63 j = S.1 r j)) k (fun i q hi hI ih => ?_) (fun q hI => ?_) _ ⟨fun c c1 c2 => gI_ne _ _ _ c1, fun j hj => by rw [gI_same, up_n _ _ hj], rfl, fun j hj => absurd hj (Nat.not_lt_zero _)⟩
  · obtain ⟨q1, q2, q3, q4⟩ := hI
    refine b_O_layOut_7 hr (br_f (nI_ge hi (by omega)) (br_f (nI_ge (by omega) (by omega)) ⟨vIn (by omega) (by omega), e_O_layDown (br_f (by rw [q3]; exact nI_ge (b := 10) (by omega) (by omega)) ⟨by rw [q3]; exact vIn (by omega) (by omega), ?_⟩)⟩))
    rw [nCl (by omega), q3, nCl (by omega), nI_1, q1 r hr1 hr2]
    refine ih _ ⟨fun c c1 c2 => by rw [gI_ne _ _ _ c1, gI_ne _ _ _ c2]; exact q1 c c1 c2, fun j hj => ?_, rfl, fun j hj => ?_⟩
    · rw [gI_same, up_n _ _ hj, gI_ne _ _ _ (by decide)]; exact q2 j hj
    · rw [gI_ne _ _ _ (by decide), gI_same]
      by_cases y : j = i
      · rw [y, up_s]
      · rw [up_n _ _ y]; exact q4 j (by omega)
  · obtain ⟨q1, q2, q3, q4⟩ := hI
    exact b_O_layOut_7 hr (br_t (nI_le (Nat.le_refl _) (by omega)) (H q q1 q2 q3 q4))
theorem FrT.rf (M : xSt) : FrT M M := ⟨fun _ _ _ _ => rfl, fun _ _ => rfl⟩
theorem FrT.tr {M1 M2 M3 : xSt} (h : FrT M1 M2) (g : FrT M2 M3) : FrT M1 M3 := ⟨fun c a b c1 => (g.1 c a b c1).trans (h.1 c a b c1), fun j a => (g.2 j a).trans (h.2 j a)⟩
theorem FrT.w {M1 M2 : xSt} (h : ∀ c, c ≠ 44 → M2.1 c = M1.1 c) : FrT M1 M2 := ⟨fun c _ _ c1 => h c c1, fun j _ => by rw [h 0 (by decide)]⟩
theorem m_truceM {n : Nat} {W : Nat → Nat → Int32} (hn : n ≤ 6) (em : M.1 0 56 = nI n) (hW : ∀ i j, i < n → j < n → M.1 19 (6 * i + j) = W i j) {K : Int32 → xSt → Prop} (H : ∀ M' u, FrT M M' → (tQ W n ((n + 1) ^ n)).1.2 = some u → M'.1 0 85 = nI n → (∀ j, j < n → M'.1 42 j = wI (dg n u j)) → K (tQ W n ((n + 1) ^ n)).1.1 M') : M_M_truce hm e M K := by
  have p7 := pw7 hn
  have p1 : 1 ≤ (n + 1) ^ n := Nat.pow_pos (by omega)
  have f0 : FrT M (x_putI M 0 85 0) := ⟨fun c c1 _ _ => gI_ne _ _ _ c1, fun j hj => by rw [gI_same, up_n _ _ hj]⟩
  refine e_M_truce (m_rowsOf hn (by rw [f0.2 56 (by decide)]; exact em) ?_)
  refine lp_inv (B := fun v (q : Int32 × xSt) => B_M_truce_14 hm e q.1 (nI ((n + 1) ^ n)) (nI v) q.2 K) (fun v q => FrT M q.2 ∧ q.1 = (if v = 0 then -1 else (tQ W n v).1.1) ∧ ∀ u, (tQ W n v).1.2 = some u → q.2.1 0 85 = nI n ∧ ∀ j, j < n → q.2.1 42 j = wI (dg n u j)) ((n + 1) ^ n) (fun v q hv hI ih => ?_) (fun q hI => ?_) (-1, _) ⟨f0, rfl, fun u z => absurd z (by unfold tQ; simp)⟩
  · obtain ⟨x1, q⟩ := q
    obtain ⟨q1, q2, q3⟩ := hI
    have q2 : x1 = (if v = 0 then -1 else (tQ W n v).1.1) := q2
    have eW : ∀ q' : xSt, FrT M q' → ∀ i j, i < n → j < n → q'.1 19 (6 * i + j) = W i j := fun q' h => by rw [h.1 19 (by decide) (by decide) (by decide)]; exact hW
    have eM : ∀ q' : xSt, FrT M q' → q'.1 0 56 = nI n := fun q' h => by rw [h.2 56 (by decide)]; exact em
    refine b_M_truce_14 (br_f (nI_ge hv (by omega)) (m_layTwos hn (eM q q1) (eW q q1) (by omega) (fun M1 f1 f2 => ?_)))
    have g1 : FrT M M1 := q1.tr (FrT.w f1)
    have lie1 : ∀ u, (tQ W n v).1.2 = some u → M1.1 0 85 = nI n ∧ ∀ j, j < n → M1.1 42 j = wI (dg n u j) := by rw [f1 0 (by decide), f1 42 (by decide)]; exact q3
    by_cases c : vOK W n (dg n v)
    · rw [if_pos c]
      refine br_nf (by decide) ?_
      have eq : tQ W n (v + 1) = ((if (tQ W n v).1.2 = none ∨ (tQ W n v).1.1 < woW W (dg n v) n then (woW W (dg n v) n, some v) else (tQ W n v).1), (if cmW W n (dg n v) then ((tQ W n v).2.1 + 1, if (tQ W n v).2.1 = 0 then some v else (tQ W n v).2.2) else (tQ W n v).2)) := by rw [tQ, if_pos c]
      have iff : x1 < woW W (dg n v) n ↔ ((tQ W n v).1.2 = none ∨ (tQ W n v).1.1 < woW W (dg n v) n) := by
        rw [q2]
        cases v with
        | zero => rw [wo_0, if_pos rfl]; exact ⟨fun _ => Or.inl rfl, fun _ => by decide⟩
        | succ v =>
          rw [if_neg (Nat.succ_ne_zero v)]
          obtain ⟨u, hu⟩ := tQ_some W n v
          exact ⟨fun z => Or.inr z, fun z => by rcases z with z | z; rw [hu] at z; exact absurd z (by simp); exact z⟩
      refine lp_up (B := fun i (a : Int32) => B_M_truce_36 hm e x1 (nI ((n + 1) ^ n)) (nI v) a (nI i) M1 K) (fun j a => a + (if j + 1 < dg n v j then hsW W (dg n v) j else 0)) n (fun i a hi ih2 => ?_) 0 ?_
      · refine b_M_truce_36 (br_f (by rw [eM M1 g1]; exact nI_ge hi (by omega)) ⟨vIn (by omega) (by omega), ?_⟩)
        rw [nCl (by omega), f2 i hi]
        have d6 : dg n v i ≤ 6 := Nat.le_trans (dg_le n v i) hn
        by_cases y : i + 1 < dg n v i
        · rw [if_pos y] at ih2
          refine br_f (fun z => (wI_gt d6 (by omega)).mp z y) (m_hasM hn (eW M1 g1) hi (f2 i hi) (dg_le n v i) (b_M_truce_69 ?_))
          rw [nI_1]; exact ih2
        · rw [if_neg y] at ih2
          refine br_t ((wI_gt d6 (by omega)).mpr y) (b_M_truce_69 ?_)
          rw [nI_1]; exact ih2
      · show B_M_truce_36 hm e x1 (nI ((n + 1) ^ n)) (nI v) (woW W (dg n v) n) (nI n) M1 K
        refine b_M_truce_36 (br_t (by rw [eM M1 g1]; exact nI_le (Nat.le_refl _) (by omega)) ?_)
        by_cases y : x1 < woW W (dg n v) n
        · refine br_t y (m_putTwos hn (eM M1 g1) f2 (fun M2 k1 k2 k3 k4 => b_M_truce_94 ?_))
          rw [nI_1]
          refine ih (woW W (dg n v) n, M2) ⟨g1.tr k1, ?_, fun u hu => ?_⟩
          · rw [if_neg (Nat.succ_ne_zero v), eq, if_pos (iff.mp y)]
          · rw [eq, if_pos (iff.mp y)] at hu
            injection hu with hu
            rw [← hu]; exact ⟨k3, k4⟩
        · refine br_f y (b_M_truce_94 ?_)
          rw [nI_1]
          have vz : ¬ v = 0 := fun z => y (iff.mpr (Or.inl (by rw [z]; rfl)))
          refine ih (x1, M1) ⟨g1, ?_, fun u hu => ?_⟩
          · rw [if_neg (Nat.succ_ne_zero v), eq, if_neg (fun z => y (iff.mpr z))]
            show x1 = _
            rw [q2, if_neg vz]
          · rw [eq, if_neg (fun z => y (iff.mpr z))] at hu
            exact lie1 u hu
    · rw [if_neg c]
      have vz : ¬ v = 0 := fun z => c (by rw [z]; exact vOK_0 W n)
      refine br_nt rfl (b_M_truce_94 ?_)
      rw [nI_1]
      refine ih (x1, M1) ⟨g1, ?_, ?_⟩
      · rw [if_neg (Nat.succ_ne_zero v), tQ_no c]
        show x1 = _
        rw [q2, if_neg vz]
      · rw [tQ_no c]; exact lie1
  · obtain ⟨x1, q⟩ := q
    obtain ⟨q1, q2, q3⟩ := hI
    have q2 : x1 = (if (n + 1) ^ n = 0 then -1 else (tQ W n ((n + 1) ^ n)).1.1) := q2
    refine b_M_truce_14 (br_t (nI_le (Nat.le_refl _) (by omega)) ?_)
    rw [q2, if_neg (by omega)]
    obtain ⟨u, hu⟩ := tQ_some W n ((n + 1) ^ n - 1)
    rw [show (n + 1) ^ n - 1 + 1 = (n + 1) ^ n by omega] at hu
    obtain ⟨a, b⟩ := q3 u hu
    exact H q u q1 hu a b
theorem m_calmM {n : Nat} {W : Nat → Nat → Int32} (hn : n ≤ 6) (em : M.1 0 56 = nI n) (hW : ∀ i j, i < n → j < n → M.1 19 (6 * i + j) = W i j) (hg : WG W) {K : Int32 → xSt → Prop} (H : ∀ M', FrT M M' → ((tQ W n ((n + 1) ^ n)).2.2 = none → M'.1 0 85 = 0) → (∀ u, (tQ W n ((n + 1) ^ n)).2.2 = some u → M'.1 0 85 = nI n ∧ ∀ j, j < n → M'.1 42 j = wI (dg n u j)) → K (nI (tQ W n ((n + 1) ^ n)).2.1) M') : M_M_calm hm e M K := by
  have p7 := pw7 hn
  have f0 : FrT M (x_putI M 0 85 0) := ⟨fun c c1 _ _ => gI_ne _ _ _ c1, fun j hj => by rw [gI_same, up_n _ _ hj]⟩
  refine e_M_calm (m_rowsOf hn (by rw [f0.2 56 (by decide)]; exact em) ?_)
  refine lp_inv (B := fun v (q : xSt) => B_M_calm_14 hm e (nI (tQ W n v).2.1) (nI ((n + 1) ^ n)) (nI v) q K) (fun v q => FrT M q ∧ ((tQ W n v).2.2 = none → q.1 0 85 = 0) ∧ ∀ u, (tQ W n v).2.2 = some u → q.1 0 85 = nI n ∧ ∀ j, j < n → q.1 42 j = wI (dg n u j)) ((n + 1) ^ n) (fun v q hv hI ih => ?_) (fun q hI => ?_) _ ⟨f0, fun _ => rfl, fun u z => absurd z (by unfold tQ; simp)⟩
  · obtain ⟨q1, q2, q3⟩ := hI
    have hcn := (tQ_c W n v).1
    have eW : ∀ q' : xSt, FrT M q' → ∀ i j, i < n → j < n → q'.1 19 (6 * i + j) = W i j := fun q' h => by rw [h.1 19 (by decide) (by decide) (by decide)]; exact hW
    have eM : ∀ q' : xSt, FrT M q' → q'.1 0 56 = nI n := fun q' h => by rw [h.2 56 (by decide)]; exact em
    refine b_M_calm_14 (br_f (nI_ge hv (by omega)) (m_layTwos hn (eM q q1) (eW q q1) (by omega) (fun M1 f1 f2 => ?_)))
    have g1 : FrT M M1 := q1.tr (FrT.w f1)
    have l0 : (tQ W n v).2.2 = none → M1.1 0 85 = 0 := by rw [f1 0 (by decide)]; exact q2
    have lie1 : ∀ u, (tQ W n v).2.2 = some u → M1.1 0 85 = nI n ∧ ∀ j, j < n → M1.1 42 j = wI (dg n u j) := by rw [f1 0 (by decide), f1 42 (by decide)]; exact q3
    by_cases c : vOK W n (dg n v)
    · rw [if_pos c]
      refine br_f (by decide) (m_isCalmM hn (eM M1 g1) (eW M1 g1) hg f2 (fun j _ => dg_le n v j) c ?_)
      have eq : tQ W n (v + 1) = ((if (tQ W n v).1.2 = none ∨ (tQ W n v).1.1 < woW W (dg n v) n then (woW W (dg n v) n, some v) else (tQ W n v).1), (if cmW W n (dg n v) then ((tQ W n v).2.1 + 1, if (tQ W n v).2.1 = 0 then some v else (tQ W n v).2.2) else (tQ W n v).2)) := by rw [tQ, if_pos c]
      by_cases y : cmW W n (dg n v)
      · rw [if_pos y] at eq ⊢
        have e21 : (tQ W n (v + 1)).2.1 = (tQ W n v).2.1 + 1 := by rw [eq]
        have e22 : (tQ W n (v + 1)).2.2 = if (tQ W n v).2.1 = 0 then some v else (tQ W n v).2.2 := by rw [eq]
        refine br_nf (by decide) ?_
        by_cases z : (tQ W n v).2.1 = 0
        · rw [if_pos z] at e22
          refine br_nt (by rw [z]; rfl) (m_putTwos hn (eM M1 g1) f2 (fun M2 k1 k2 k3 k4 => b_M_calm_45 (b_M_calm_48 ?_)))
          rw [nI_1, nI_1, ← e21]
          refine ih M2 ⟨g1.tr k1, fun x => ?_, fun u hu => ?_⟩
          · rw [e22] at x; exact absurd x (by simp)
          · rw [e22] at hu; injection hu with hu; rw [← hu]; exact ⟨k3, k4⟩
        · rw [if_neg z] at e22
          refine br_nf (fun x => z ((nEq (b := 0) (by omega) (by omega)).mp x)) (b_M_calm_45 (b_M_calm_48 ?_))
          rw [nI_1, nI_1, ← e21]
          refine ih M1 ⟨g1, ?_, ?_⟩
          · rw [e22]; exact l0
          · rw [e22]; exact lie1
      · rw [if_neg y] at eq ⊢
        have e2 : (tQ W n (v + 1)).2 = (tQ W n v).2 := by rw [eq]
        refine br_nt rfl (b_M_calm_48 ?_)
        rw [nI_1, ← e2]
        refine ih M1 ⟨g1, ?_, ?_⟩
        · rw [e2]; exact l0
        · rw [e2]; exact lie1
    · rw [if_neg c]
      refine br_t rfl (b_M_calm_48 ?_)
      rw [nI_1, ← tQ_no c]
      refine ih M1 ⟨g1, ?_, ?_⟩
      · rw [tQ_no c]; exact l0
      · rw [tQ_no c]; exact lie1
  · obtain ⟨q1, q2, q3⟩ := hI
    exact b_M_calm_14 (br_t (nI_le (Nat.le_refl _) (by omega)) (H q q1 q2 q3))
theorem RelP.wg {nm nd nb nf hd st : Nat} (h : RelP nm nd nb nf hd st S M) : WG (WS S) ∧ (∀ i j, i < nm → j < nm → M.1 19 (6 * i + j) = WS S i j) := ⟨fun i j hi hj => h.1.2.2.2.2.2.2.2.2.2.1 i j hi hj, h.2.1.2.2.2.2⟩
theorem RelP.tru {nm nd nb nf hd st : Nat} {S1 S2 M2 : xSt} (hP : RelP nm nd nb nf hd st S M) (h1 : ∀ c, c ≠ 53 → c ≠ 54 → c ≠ 55 → c ≠ 56 → S1.1 c = S.1 c) (h2 : ∀ c, c ≠ 0 → c ≠ 63 → S2.1 c = S1.1 c) (h3 : ∀ j, j ≠ 11 → S2.1 0 j = S1.1 0 j) (hM : FrT M M2) (hL : RLi (S2.1 0 11) (S2.1 63) (M2.1 0 85) (M2.1 42)) : RelP nm nd nb nf hd st S2 M2 := by
  have z : ∀ c, c ∈ rC → c ≠ 53 ∧ c ≠ 54 ∧ c ≠ 55 ∧ c ≠ 56 := by decide
  refine hP.lie (fun c hc c0 c1 => ?_) (fun j hj => ?_) ?_ ?_ ?_ (fun c hc c1 => ?_) (fun j hj c1 => hM.2 j c1) (hM.1 _ (by decide) (by decide) (by decide)) (hM.1 _ (by decide) (by decide) (by decide)) (hM.2 _ (by decide)) (hM.2 _ (by decide)) hL
  · rw [h2 c c0 c1, h1 c (z c hc).1 (z c hc).2.1 (z c hc).2.2.1 (z c hc).2.2.2]
  · rw [h3 j hj, h1 0 (by decide) (by decide) (by decide) (by decide)]
  · rw [h2 _ (by decide) (by decide), h1 _ (by decide) (by decide) (by decide) (by decide)]
  · rw [h2 _ (by decide) (by decide), h1 _ (by decide) (by decide) (by decide) (by decide)]
  · rw [h2 _ (by decide) (by decide), h1 _ (by decide) (by decide) (by decide) (by decide)]
  · have y : c ≠ 0 ∧ c ≠ 44 := by revert c; decide
    exact hM.1 c y.1 c1 y.2
theorem sim_truce (hR : Rel S M) : OK2 Rel (M_O_truce hc d S) (M_M_truce hm e M) := by
  obtain ⟨nm, nd, nb, nf, hd, st, hP⟩ := hR
  have em := hP.1.1.1
  have hn := hP.1.1.2
  have emM : M.1 0 56 = nI nm := hP.2.1.1.1.trans em
  obtain ⟨hg, hW⟩ := hP.wg
  refine e_O_truce (m_tryAll hn em hg (fun S1 q => ?_))
  obtain ⟨q1, q2, q3, q4, q5, q6, q7⟩ := q
  rw [q1 2 (by decide) (by decide) (by decide) (by decide), em]
  refine m_layOut rfl (by decide) (by decide) hn (fun S2 h2 h3 h4 h5 => m_truceM hn emM hW (fun M2 u f1 f2 f3 f4 => ?_))
  have e53 : S2.1 53 3 = S1.1 53 3 := by rw [h2 _ (by decide) (by decide)]
  refine ⟨by rw [e53, q3], nm, nd, nb, nf, hd, st, hP.tru q1 h2 h3 f1 ⟨nm, by omega, h4, f3, fun j hj => ?_⟩⟩
  rw [f4 j hj, h5 j hj, (q5 u f2).2 j hj]
theorem sim_calm (hR : Rel S M) : OK2 Rel (M_O_calm hc d S) (M_M_calm hm e M) := by
  obtain ⟨nm, nd, nb, nf, hd, st, hP⟩ := hR
  have em := hP.1.1.1
  have hn := hP.1.1.2
  have emM : M.1 0 56 = nI nm := hP.2.1.1.1.trans em
  obtain ⟨hg, hW⟩ := hP.wg
  refine e_O_calm (m_tryAll hn em hg (fun S1 q => ?_))
  obtain ⟨q1, q2, q3, q4, q5, q6, q7⟩ := q
  have hcn := tQ_c (WS S) nm ((nm + 1) ^ nm)
  have p7 := pw7 hn
  by_cases z : (tQ (WS S) nm ((nm + 1) ^ nm)).2.1 = 0
  · refine br_t (by rw [q6, z]; decide) (m_layOut (k := 0) rfl (by decide) (by decide) (by omega) (fun S2 h2 h3 h4 h5 => m_calmM hn emM hW hg (fun M2 f1 f2 f3 => ?_)))
    have e53 : S2.1 53 5 = S1.1 53 5 := by rw [h2 _ (by decide) (by decide)]
    exact ⟨by rw [e53, q6], nm, nd, nb, nf, hd, st, hP.tru q1 h2 h3 f1 ⟨0, by omega, h4, f2 (hcn.2.mp z), fun j hj => absurd hj (Nat.not_lt_zero _)⟩⟩
  · have nz : ¬ nI (tQ (WS S) nm ((nm + 1) ^ nm)).2.1 ≤ 0 := fun y => z (by have := (nLe (b := 0) (by omega) (by omega)).mp y; omega)
    refine br_f (by rw [q6]; exact nz) ?_
    rw [q1 2 (by decide) (by decide) (by decide) (by decide), em]
    refine m_layOut rfl (by decide) (by decide) hn (fun S2 h2 h3 h4 h5 => m_calmM hn emM hW hg (fun M2 f1 f2 f3 => ?_))
    have e53 : S2.1 53 5 = S1.1 53 5 := by rw [h2 _ (by decide) (by decide)]
    cases hu : (tQ (WS S) nm ((nm + 1) ^ nm)).2.2 with
    | none => exact absurd (hcn.2.mpr hu) z
    | some u =>
      obtain ⟨a, b⟩ := f3 u hu
      refine ⟨by rw [e53, q6], nm, nd, nb, nf, hd, st, hP.tru q1 h2 h3 f1 ⟨nm, by omega, h4, a, fun j hj => ?_⟩⟩
      rw [b j hj, h5 j hj, q7 u hu j hj]
end
