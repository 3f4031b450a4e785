section
variable {hc hm : xH} {d e : Nat} {S M : xSt}
theorem RelP.lie {nm nd nb nf hd st : Nat} {S2 M2 : xSt} (hP : RelP nm nd nb nf hd st S M) (hC : ∀ c, c ∈ rC → c ≠ 0 → c ≠ 63 → S2.1 c = S.1 c) (h0 : ∀ j, j ≠ 11 → S2.1 0 j = S.1 0 j) (h42 : S2.1 42 = S.1 42) (h43 : S2.1 43 = S.1 43) (h44 : S2.1 44 = S.1 44) (hMc : ∀ c, c ∈ rM → c ≠ 42 → M2.1 c = M.1 c) (hM0 : ∀ j, j ∈ rJ → j ≠ 85 → M2.1 0 j = M.1 0 j) (h34 : M2.1 34 = M.1 34) (h35 : M2.1 35 = M.1 35) (h69 : M2.1 0 69 = M.1 0 69) (h70 : M2.1 0 70 = M.1 0 70) (hL : RLi (S2.1 0 11) (S2.1 63) (M2.1 0 85) (M2.1 42)) : RelP nm nd nb nf hd st S2 M2 := by
  have h3 : RelP nm nd nb nf hd st (x_putA (x_putA S2 0 (S.1 0)) 63 (S.1 63)) (x_putI (x_putA M2 42 (M.1 42)) 0 85 (M.1 0 85)) := by
    refine hP.same (fun c hc => ?_) h42 h43 h44 (fun c hc => ?_) (fun j hj => ?_) h34 h35 h69 h70
    · by_cases c1 : c = 63
      · rw [c1, gA_s]
      · rw [gA_n _ _ c1]
        by_cases c2 : c = 0
        · rw [c2, gA_s]
        · rw [gA_n _ _ c2]; exact hC c hc c2 c1
    · have c0 : c ≠ 0 := by revert c; decide
      rw [gI_ne _ _ _ c0]
      by_cases c1 : c = 42
      · rw [c1, gA_s]
      · rw [gA_n _ _ c1]; exact hMc c hc c1
    · show upd (M2.1 0) 85 _ j = _
      by_cases c1 : j = 85
      · rw [c1, up_s]
      · rw [up_n _ _ c1]; exact hM0 j hj c1
  obtain ⟨hT, hM, hW, hN, hH, hB, hG, -, hF, hA⟩ := h3
  refine ⟨hT, hM, hW, hN, hH, hB, hG, hL, ?_, ?_⟩
  · show M2.1 0 2 = S2.1 0 12 ∧ M2.1 0 3 = S2.1 0 13
    rw [h0 _ (by decide), h0 _ (by decide)]; exact hF
  · show RA (S2.1 0 1) (S2.1 1) (M2.1 0 1) (M2.1 1)
    rw [h0 _ (by decide)]; exact hA
theorem bsW_lt {n : Nat} {w : Nat → Nat} : ∀ m, (∀ j, j < m → w j ≤ n) → bsW n w m < (n + 1) ^ m := by
  intro m
  induction m with
  | zero => intro _; exact Nat.one_pos
  | succ m ih =>
    intro h
    have h1 := ih (fun j hj => h j (by omega))
    have h2 := h m (by omega)
    show bsW n w m * (n + 1) + w m < _
    rw [Nat.pow_succ]
    have h3 : (bsW n w m + 1) * (n + 1) ≤ (n + 1) ^ m * (n + 1) := Nat.mul_le_mul_right _ h1
    rw [Nat.succ_mul] at h3
    omega
theorem pw7 {n : Nat} (hn : n ≤ 6) : (n + 1) ^ n ≤ 117649 := Nat.le_trans (Nat.pow_le_pow_left (show n + 1 ≤ 7 by omega) n) (Nat.pow_le_pow_right (by omega) hn)
theorem row_at {n m k e r : Nat} {w : Nat → Nat} (hk : m + (k + 1) = n) (hw : ∀ j, j < m → w j ≤ n) (he : e ≤ n) (hr : r < (n + 1) ^ k) : (∀ j, j < m → dg n ((bsW n w m * (n + 1) + e) * (n + 1) ^ k + r) j = w j) ∧ dg n ((bsW n w m * (n + 1) + e) * (n + 1) ^ k + r) m = e := by
  have eb : bsW n (fun j => if j = m then e else w j) (m + 1) = bsW n w m * (n + 1) + e := by
    show bsW n (fun j => if j = m then e else w j) m * (n + 1) + (if m = m then e else w m) = _
    rw [if_pos rfl, bsW_congr (w' := w) m (fun j hj => if_neg (by omega))]
  have q := dg_bs (n := n) (w := fun j => if j = m then e else w j) (m + 1) (by omega) (fun j hj => by
    show (if j = m then e else w j) ≤ n
    split
    · exact he
    · exact hw j (by omega)) r (by rw [show n - (m + 1) = k by omega]; exact hr)
  rw [eb, show n - (m + 1) = k by omega] at q
  refine ⟨fun j hj => ?_, ?_⟩
  · rw [q j (by omega), if_neg (by omega)]
  · rw [q m (by omega), if_pos rfl]
theorem blk_skip {W : Nat → Nat → Int32} {n m k : Nat} {w : Nat → Nat} (hk : m + (k + 1) = n) (hw : ∀ j, j < m → w j ≤ n) {e : Nat} (he : e ≤ n) (h : ∀ f : Nat → Nat, (∀ j, j < m → f j = w j) → f m = e → ¬ vOK W n f) : tQ W n ((bsW n w m * (n + 1) + (e + 1)) * (n + 1) ^ k) = tQ W n ((bsW n w m * (n + 1) + e) * (n + 1) ^ k) := by
  rw [show bsW n w m * (n + 1) + (e + 1) = (bsW n w m * (n + 1) + e) + 1 by omega, Nat.succ_mul]
  exact tQ_skip _ (fun u hu => by obtain ⟨a, b⟩ := row_at hk hw he hu; exact h _ a b)
theorem blk_range {W : Nat → Nat → Int32} {n m k : Nat} {w : Nat → Nat} (hk : m + (k + 1) = n) (hw : ∀ j, j < m → w j ≤ n) (lo : Nat) : ∀ t, lo + t ≤ n + 1 → (∀ e, lo ≤ e → e < lo + t → ∀ f : Nat → Nat, (∀ j, j < m → f j = w j) → f m = e → ¬ vOK W n f) → tQ W n ((bsW n w m * (n + 1) + (lo + t)) * (n + 1) ^ k) = tQ W n ((bsW n w m * (n + 1) + lo) * (n + 1) ^ k) := by
  intro t
  induction t with
  | zero => intro _ _; rfl
  | succ t ih =>
    intro h1 h2
    rw [show lo + (t + 1) = lo + t + 1 by omega, blk_skip hk hw (by omega) (h2 (lo + t) (by omega) (by omega))]
    exact ih (by omega) (fun e a b => h2 e a (by omega))
theorem pf_run {S0 : xSt} {n : Nat} (hn : n ≤ 6) (em : S0.1 2 0 = nI n) (hg : WG (WS S0)) : ∀ k m, m + k = n → ∀ (d : Nat) (S : xSt) (w : Nat → Nat) (K : xSt → Prop), InvW (WS S0) n m w → CQ S0 n w (tQ (WS S0) n (bsW n w m * (n + 1) ^ k)) S → (∀ S', CQ S0 n w (tQ (WS S0) n (bsW n w m * (n + 1) ^ k + (n + 1) ^ k)) S' → K S') → M_Tr_pairFrom hc (d + k + 1) (nI m) S K := by
  intro k
  induction k with
  | zero =>
    intro m hm d S w K hI hq H
    have : m = n := by omega
    subst this
    rw [Nat.pow_zero, Nat.mul_one] at hq H
    have hle : ∀ j, j < m → w j ≤ m := fun j hj => hI.le hj
    have hd : ∀ j, j < m → w j = dg m (bsW m w m) j := fun j hj => by
      have := dg_bs (n := m) (w := w) m (Nat.le_refl _) hle 0 (by rw [Nat.sub_self, Nat.pow_zero]; omega) j hj
      rw [Nat.sub_self, Nat.pow_zero, Nat.mul_one] at this
      exact this.symm
    have hv : vOK (WS S0) m (dg m (bsW m w m)) := vOK_in hI (fun j hj => (hd j hj).symm)
    have hlt := bsW_lt (n := m) (w := w) m hle
    have hc7 := pw7 hn
    have hc1 := (tQ_c (WS S0) m (bsW m w m)).1
    refine e_Tr_pairFrom (br_f (by rw [hq.1 2 (by decide) (by decide) (by decide) (by decide), em, nLt (by omega) (by omega)]; omega) (m_weigh hn em hq hd hv (by omega) (fun S' h' => H S' ?_)))
    show CQ S0 m w (if vOK (WS S0) m (dg m (bsW m w m)) then _ else _) S'
    rw [if_pos hv]; exact h'
  | succ k ih =>
    intro m hm d S w K hI hq H
    have hle : ∀ j, j < m → w j ≤ n := fun j hj => hI.le (by omega)
    have eV : bsW n w m * (n + 1) ^ (k + 1) = (bsW n w m * (n + 1) + 0) * (n + 1) ^ k := by rw [Nat.add_zero (bsW n w m * (n + 1)), Nat.pow_succ, Nat.mul_comm ((n + 1) ^ k), Nat.mul_assoc]
    have eE : bsW n w m * (n + 1) ^ (k + 1) + (n + 1) ^ (k + 1) = (bsW n w m * (n + 1) + (n + 1)) * (n + 1) ^ k := by rw [eV, Nat.add_zero (bsW n w m * (n + 1)), Nat.add_mul, Nat.pow_succ, Nat.mul_comm ((n + 1) ^ k)]
    rw [eE] at H
    rw [eV] at hq
    have cm : (nI m).toNatClampNeg = m := nCl (by omega)
    have v6 : vp_in (nI m) 6 := vIn (by omega) (by omega)
    have men : ∀ {q w'} {S' : xSt}, CQ S0 n w' q S' → S'.1 2 0 = nI n := fun h => by rw [h.1 2 (by decide) (by decide) (by decide) (by decide)]; exact em
    show M_Tr_pairFrom hc ((d + k + 1) + 1) (nI m) S K
    refine e_Tr_pairFrom (br_t (by rw [men hq]; exact nI_lt (by omega) (by omega)) ⟨v6, ?_⟩)
    rw [cm, hq.2.1 m (by omega)]
    by_cases c0 : w m = 0
    · rw [wI_0 c0]
      refine br_t rfl (b_Tr_pairFrom_31 ?_)
      rw [nI_1]
      have eb : bsW n w (m + 1) = bsW n w m * (n + 1) + 0 := by show bsW n w m * (n + 1) + w m = _; rw [c0]
      refine ih (m + 1) (by omega) d S w _ hI.up (by rw [eb]; exact hq) (fun S1 h1 => ?_)
      rw [eb, ← Nat.succ_mul, show (bsW n w m * (n + 1) + 0).succ = bsW n w m * (n + 1) + 1 by omega] at h1
      -- with each other man upward
      have loop : ∀ t i, i + t = n → m < i → ∀ S1, CQ S0 n w (tQ (WS S0) n ((bsW n w m * (n + 1) + (i + 1)) * (n + 1) ^ k)) S1 → B_Tr_pairFrom_43 hc (d + k + 1) (nI m) 0 (nI i) S1 K := by
        intro t
        induction t with
        | zero =>
          intro i hi hmi S1 h1
          have : i = n := by omega
          subst this
          exact b_Tr_pairFrom_43 (br_t (by rw [men h1]; exact nI_le (Nat.le_refl _) (by omega)) (H S1 h1))
        | succ t iht =>
          intro i hi hmi S1 h1
          have ci : (nI i).toNatClampNeg = i := nCl (by omega)
          have vi : vp_in (nI i) 6 := vIn (by omega) (by omega)
          have nx : ∀ S2, CQ S0 n w (tQ (WS S0) n ((bsW n w m * (n + 1) + (i + 1 + 1)) * (n + 1) ^ k)) S2 → B_Tr_pairFrom_117 hc (d + k + 1) (nI m) 0 (nI i) S2 K := fun S2 h2 => b_Tr_pairFrom_117 (by rw [nI_1]; exact iht (i + 1) (by omega) (by omega) S2 h2)
          have skip : (i ≤ m ∨ ¬ w i = 0 ∨ WS S0 m i = -100) → B_Tr_pairFrom_117 hc (d + k + 1) (nI m) 0 (nI i) S1 K := fun z => nx S1 (by rw [blk_skip hm hle (e := i + 1) (by omega) (fun f a b => no_free hI (by omega) (by omega) c0 a b z)]; exact h1)
          refine b_Tr_pairFrom_43 (br_f (by rw [men h1]; exact nI_ge (by omega) (by omega)) (br_nt rfl ⟨vi, ?_⟩))
          rw [ci, h1.2.1 i (by omega)]
          by_cases c1 : w i = 0
          · refine br_nt (wI_0 c1) (m_worthOf (by omega) (by omega) ?_)
            have eW : WS S1 m i = WS S0 m i := by show S1.1 14 _ = _; rw [h1.1 14 (by decide) (by decide) (by decide) (by decide)]
            rw [eW]
            by_cases c2 : WS S0 m i = -100
            · exact br_t c2 (skip (Or.inr (Or.inr c2)))
            · refine br_f c2 ⟨v6, vi, ?_⟩
              rw [cm, nI_1]
              have eo : (fun j => if j = i then m + 1 else if j = m then i + 1 else w j) i = m + 1 := if_pos rfl
              have emm : (fun j => if j = i then m + 1 else if j = m then i + 1 else w j) m = i + 1 := by show (if m = i then _ else if m = m then _ else _) = _; rw [if_neg (by omega), if_pos rfl]
              have er : ∀ j, j ≠ i → j ≠ m → (fun j => if j = i then m + 1 else if j = m then i + 1 else w j) j = w j := fun j a b => by show (if j = i then _ else if j = m then _ else _) = _; rw [if_neg a, if_neg b]
              generalize (fun j => if j = i then m + 1 else if j = m then i + 1 else w j) = w1 at eo emm er
              have eb1 : bsW n w1 (m + 1) = bsW n w m * (n + 1) + (i + 1) := by
                show bsW n w1 m * (n + 1) + w1 m = _
                rw [emm, bsW_congr (w' := w) m (fun j hj => er j (by omega) (by omega))]
              have u54 : ∀ (T : xSt) (a b : Int32), (x_putI (x_putI T 54 m a) 54 i b).1 54 = upd (upd (T.1 54) m a) i b := fun T a b => by rw [gI_same, gI_same]
              obtain ⟨q1, q2, q3, q4, q5, q6, q7⟩ := h1
              refine ih (m + 1) (by omega) d _ w1 _ (hI.pair (fun a b ha hb => (hg a b ha hb).2) hn hmi (by omega) c0 c1 c2 eo emm er) ?_ (fun S2 h2 => ?_)
              · rw [eb1]
                refine ⟨fun c a1 a2 a3 a4 => by rw [gI_ne _ _ _ a2, gI_ne _ _ _ a2]; exact q1 c a1 a2 a3 a4, fun j hj => ?_, q3, q4, q5, q6, q7⟩
                rw [u54]
                by_cases y : j = i
                · rw [y, up_s, eo, wI_p (by omega)]; rfl
                · rw [up_n _ _ y]
                  by_cases x : j = m
                  · rw [x, up_s, emm, wI_p (by omega)]; rfl
                  · rw [up_n _ _ x, er j y x]; exact q2 j hj
              · rw [eb1, ← Nat.succ_mul, show (bsW n w m * (n + 1) + (i + 1)).succ = bsW n w m * (n + 1) + (i + 1 + 1) by omega] at h2
                obtain ⟨p1, p2, p3, p4, p5, p6, p7⟩ := h2
                refine ⟨v6, vi, nx _ ?_⟩
                refine ⟨fun c a1 a2 a3 a4 => by rw [gI_ne _ _ _ a2, gI_ne _ _ _ a2]; exact p1 c a1 a2 a3 a4, fun j hj => ?_, p3, p4, p5, p6, p7⟩
                rw [u54]
                by_cases y : j = i
                · rw [y, up_s, wI_0 c1]
                · rw [up_n _ _ y]
                  by_cases x : j = m
                  · rw [x, up_s, wI_0 c0]
                  · rw [up_n _ _ x, p2 j hj, er j y x]
          · exact br_nf (by rw [wI_p c1]; exact nM1 (by have := hI.le (j := i) (by omega); omega)) (skip (Or.inr (Or.inl c1)))
      refine loop (n - (m + 1)) (m + 1) (by omega) (by omega) S1 ?_
      have := blk_range (W := WS S0) hm hle 1 (m + 1) (by omega) (fun e e1 e2 f a b => no_free (o := e - 1) hI (by omega) (by omega) c0 a (by rw [b]; omega) (Or.inl (by omega)))
      rw [show 1 + (m + 1) = m + 1 + 1 by omega] at this
      rw [this]; exact h1
    · have hwm := hI.le (j := m) (by omega)
      rw [wI_p c0]
      refine br_f (nM1 (by omega)) (b_Tr_pairFrom_31 ?_)
      rw [nI_1]
      have eb : bsW n w (m + 1) = bsW n w m * (n + 1) + w m := rfl
      have no : ∀ e, ¬ e = w m → ∀ f : Nat → Nat, (∀ j, j < m → f j = w j) → f m = e → ¬ vOK (WS S0) n f := fun e he f a b => no_taken (k0 := w m - 1) hI (by omega) (by omega) (by omega) a b
      refine ih (m + 1) (by omega) d S w _ hI.up ?_ (fun S1 h1 => ?_)
      · rw [eb]
        have := blk_range (W := WS S0) hm hle 0 (w m) (by omega) (fun e e1 e2 => no e (by omega))
        rw [Nat.zero_add] at this
        rw [this]; exact hq
      · rw [eb, ← Nat.succ_mul, show (bsW n w m * (n + 1) + w m).succ = bsW n w m * (n + 1) + (w m + 1) by omega] at h1
        have := blk_range (W := WS S0) hm hle (w m + 1) (n + 1 - (w m + 1)) (by omega) (fun e e1 e2 => no e (by omega))
        rw [show w m + 1 + (n + 1 - (w m + 1)) = n + 1 by omega] at this
        rw [← this] at h1
        refine b_Tr_pairFrom_43 ?_
        by_cases z : S1.1 2 0 ≤ nI (m + 1)
        · exact br_t z (H S1 h1)
        · exact br_f z (br_nf (by decide) (H S1 h1))
theorem m_tryAll {n : Nat} (hn : n ≤ 6) (em : S.1 2 0 = nI n) (hg : WG (WS S)) {K : xSt → Prop} (H : ∀ S', CQ S n (fun _ => 0) (tQ (WS S) n ((n + 1) ^ n)) S' → K S') : M_Tr_tryAll hc d S K := by
  refine e_Tr_tryAll ?_
  refine lp_inv (B := fun i (q : xSt) => B_Tr_tryAll_17 hc d (nI i) q K) (fun i q => (∀ c, c ≠ 53 → c ≠ 54 → q.1 c = S.1 c) ∧ (∀ j, j < i → q.1 54 j = -1) ∧ q.1 53 6 = 0 ∧ q.1 53 3 = 0 ∧ q.1 53 5 = 0) 6 (fun i q hi hI ih => ?_) (fun q hI => ?_) _ ⟨fun c c1 c2 => by rw [gI_ne _ _ _ c1, gI_ne _ _ _ c1, gI_ne _ _ _ c1], fun j hj => absurd hj (Nat.not_lt_zero _), rfl, rfl, rfl⟩
  · obtain ⟨q1, q2, q3⟩ := hI
    refine b_Tr_tryAll_17 (br_f (nI_ge (b := 6) hi (by omega)) ⟨vIn (by omega) (by omega), ?_⟩)
    rw [nCl (by omega), nI_1]
    refine ih _ ⟨fun c c1 c2 => by rw [gI_ne _ _ _ c2]; exact q1 c c1 c2, fun j hj => ?_, q3⟩
    rw [gI_same]
    by_cases z : j = i
    · rw [z, up_s]
    · rw [up_n _ _ z]; exact q2 j (by omega)
  · obtain ⟨q1, q2, q3, q4, q5⟩ := hI
    refine b_Tr_tryAll_17 (br_t (by decide) ?_)
    rw [show d + 8 = (d + (7 - n)) + n + 1 by omega]
    refine pf_run (S0 := S) hn em hg n 0 (by omega) (d + (7 - n)) q (fun _ => 0) _ (fun j _ => Or.inl rfl) ?_ (fun S' h' => ?_)
    · rw [show bsW n (fun _ => 0) 0 = 0 from rfl, Nat.zero_mul]
      exact ⟨fun c c1 c2 _ _ => q1 c c1 c2, fun j hj => by rw [q2 j (by omega), wI_0 rfl], q4, fun _ => q3, fun v z => absurd z (by unfold tQ; simp), q5, fun v z => absurd z (by unfold tQ; simp)⟩
    · rw [show bsW n (fun _ => 0) 0 = 0 from rfl, Nat.zero_mul, Nat.zero_add] at h'
      exact H S' h'
end
