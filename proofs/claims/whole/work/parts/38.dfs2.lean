section
variable {hc hm : xH} {d e : Nat} {S M : xSt}
/-- what going on to the next order changes -/
def FrO (M M' : xSt) : Prop := (∀ c, c ≠ 0 → c ≠ 38 → c ≠ 39 → c ≠ 40 → M'.1 c = M.1 c) ∧ ∀ j, j ≠ 79 → M'.1 0 j = M.1 0 j
theorem FrO.rf (M : xSt) : FrO M M := ⟨fun _ _ _ _ _ => rfl, fun _ _ => rfl⟩
theorem FrO.tr {M1 M2 M3 : xSt} (h : FrO M1 M2) (g : FrO M2 M3) : FrO M1 M3 := ⟨fun c a b c1 d => (g.1 c a b c1 d).trans (h.1 c a b c1 d), fun j a => (g.2 j a).trans (h.2 j a)⟩
theorem CM.fr {S0 M' : xSt} {nd nb hd D : Nat} {hr : Nat → Nat} (h : CM S0 nd nb hd D hr M) (q : FrO M M') : CM S0 nd nb hd D hr M' := by
  unfold CM
  rw [q.2 57 (by decide), q.2 58 (by decide), q.2 60 (by decide), q.2 80 (by decide), q.1 18 (by decide) (by decide) (by decide) (by decide), q.1 34 (by decide) (by decide) (by decide) (by decide), q.1 26 (by decide) (by decide) (by decide) (by decide), q.1 28 (by decide) (by decide) (by decide) (by decide), q.1 33 (by decide) (by decide) (by decide) (by decide), q.1 29 (by decide) (by decide) (by decide) (by decide)]
  exact h
theorem oMem_t {f : Nat → Nat} {x : Nat} : ∀ n, oMem f n x = true → ∃ j, j < n ∧ f j = x := by
  intro n
  induction n with
  | zero => intro h; exact absurd h (by unfold oMem; simp)
  | succ n ih =>
    intro h
    have h : (oMem f n x || decide (f n = x)) = true := h
    rw [Bool.or_eq_true] at h
    rcases h with h | h
    · obtain ⟨j, a, b⟩ := ih h; exact ⟨j, by omega, b⟩
    · exact ⟨n, by omega, by simpa using h⟩
theorem oMem_i {f : Nat → Nat} {x : Nat} : ∀ n j, j < n → f j = x → oMem f n x = true := by
  intro n
  induction n with
  | zero => intro j h; exact absurd h (Nat.not_lt_zero _)
  | succ n ih =>
    intro j h e
    show (oMem f n x || decide (f n = x)) = true
    by_cases c : j = n
    · rw [← c]; simp [e]
    · rw [ih j (by omega) e]; rfl
section
variable {S0 : xSt} {nd nb hd D : Nat} {hr : Nat → Nat} {x : Int32}
theorem m_canPut (hC : CM S0 nd nb hd D hr M) {o : oT} (ho : oOK nd o) (hs : SKo (kvS S0 nb x D hd) hr o M) {dd : Nat} (hdd : dd < nd) {K : Int32 → xSt → Prop} (H0 : ¬ oAl hr (fbS S0 nb x D hd) o dd → K 0 M) (H1 : oAl hr (fbS S0 nb x D hd) o dd → ∀ M', FrO M M' → SKo (kvS S0 nb x D hd) hr (oPush o dd) M' → K 1 M') : M_M_canPut hm e x (nI dd) M K := by
  have hC0 := hC
  obtain ⟨⟨d1, d2⟩, ⟨b1, b2⟩, ⟨t1, t2, t3⟩, e80, hh, hb⟩ := hC
  obtain ⟨s1, s2, s3, s4⟩ := hs
  have hol := ho.le
  have hl := oHrs_le (fun d hd => (hh d hd).2) o.1 (fun j hj => (ho j hj).1)
  have hl2 := (hh dd hdd).2
  refine e_M_canPut ?_
  have rest : oMem o.2 o.1 dd = false → B_M_canPut_2 hm e x (nI dd) (nI o.1) M K := by
    intro hm0
    have o6 : o.1 < nd := by
      rcases Nat.lt_or_ge o.1 nd with q | q
      · exact q
      · rw [ho.full (by omega) hdd] at hm0; exact absurd hm0 (by simp)
    have co : (nI o.1).toNatClampNeg = o.1 := nCl (by omega)
    have co1 : (nI (o.1 + 1)).toNatClampNeg = o.1 + 1 := nCl (by omega)
    have v7 : vp_in (nI o.1) 7 := vIn (by omega) (by omega)
    have v71 : vp_in (nI (o.1 + 1)) 7 := vIn (by omega) (by omega)
    refine b_M_canPut_2 (br_t (by rw [s1]; exact nI_le (Nat.le_refl _) (by omega)) ?_)
    rw [s1, co, s3 o.1 (Nat.le_refl _), nCl (by omega), (hh dd hdd).1, nI_add]
    have nz : ∀ q : xSt, FrO M q → ¬ q.1 0 60 = 0 := fun q h => by rw [h.2 60 (by decide), t1]; exact fun z => absurd ((nEq (b := 0) (by omega) (by omega)).mp z) (by omega)
    have don : ∀ q : xSt, FrO M q → q.1 0 80 + (nI (oHrs hr o.2 o.1 + hr dd) - 1) / q.1 0 60 = oDay D hd (oHrs hr o.2 o.1 + hr dd) := fun q h => by rw [h.2 60 (by decide), h.2 80 (by decide), t1, e80]
    refine ⟨v7, vIn (by omega) (by omega), m_M_doneOn (nz M (FrO.rf M)) ?_⟩
    rw [don M (FrO.rf M)]
    refine m_isForb hC0 ?_
    by_cases c : fbS S0 nb x D hd dd (oHrs hr o.2 o.1 + hr dd) = true
    · rw [if_pos c]
      exact br_f (by decide) (H0 (fun z => by have z2 := z.2; rw [c] at z2; exact absurd z2 (by simp)))
    · rw [if_neg c]
      refine br_t rfl ?_
      rw [s1, nI_1, co, co1]
      refine ⟨v7, v71, v7, ?_⟩
      have f1 : FrO M (x_putI (x_putI M 38 o.1 (nI dd)) 39 (o.1 + 1) (nI (oHrs hr o.2 o.1 + hr dd))) := ⟨fun c c0 c1 c2 c3 => by rw [gI_ne _ _ _ c2, gI_ne _ _ _ c1], fun j _ => rfl⟩
      refine m_M_doneOn (nz _ f1) ?_
      rw [don _ f1]
      refine m_keptOf (hC0.fr f1) ⟨v71, ?_⟩
      have e0 : (x_putI (x_putI M 38 o.1 (nI dd)) 39 (o.1 + 1) (nI (oHrs hr o.2 o.1 + hr dd))).1 0 79 = nI o.1 := s1
      rw [e0, nI_1, s4 o.1 (Nat.le_refl _)]
      refine H1 ⟨hm0, by simpa using c⟩ _ (f1.tr ⟨fun c c0 c1 c2 c3 => by rw [gI_ne _ _ _ c0, gI_ne _ _ _ c3], fun j hj => ?_⟩) ⟨?_, fun j hj => ?_, fun j hj => ?_, fun j hj => ?_⟩
      · rw [gI_same, up_n _ _ hj, gI_ne _ _ _ (by decide)]
      · rw [gI_same, up_s]; rfl
      · have hj : j < o.1 + 1 := hj
        show upd (M.1 38) o.1 (nI dd) j = _
        by_cases y : j = o.1
        · rw [y, up_s, oP_t]
        · rw [up_n _ _ y, oP_b o dd j (by omega)]; exact s2 j (by omega)
      · have hj : j ≤ o.1 + 1 := hj
        show upd (M.1 39) (o.1 + 1) _ j = _
        by_cases y : j = o.1 + 1
        · rw [y, up_s]
          exact congrArg nI (oHrs_p hr o dd).symm
        · rw [up_n _ _ y, oHrs_c j (fun i hi => oP_b o dd i (by omega))]; exact s3 j (by omega)
      · have hj : j ≤ o.1 + 1 := hj
        show upd (M.1 40) (o.1 + 1) _ j = _
        by_cases y : j = o.1 + 1
        · rw [y, up_s]
          show _ = oKp _ hr (oPush o dd).2 o.1 ||| kvS S0 nb x D hd ((oPush o dd).2 o.1) (oHrs hr (oPush o dd).2 o.1 + hr ((oPush o dd).2 o.1))
          rw [oP_t, oKp_c o.1 (oP_b o dd), oHrs_c o.1 (oP_b o dd)]
        · rw [up_n _ _ y, oKp_c j (fun i hi => oP_b o dd i (by omega))]; exact s4 j (by omega)
  have go : ∀ k i, i + k = o.1 → (∀ j, j < i → o.2 j ≠ dd) → B_M_canPut_2 hm e x (nI dd) (nI i) M K := by
    intro k
    induction k with
    | zero =>
      intro i hi hb
      have : i = o.1 := by omega
      subst this
      refine rest ?_
      cases q : oMem o.2 o.1 dd with
      | false => rfl
      | true => obtain ⟨j, a, b⟩ := oMem_t o.1 q; exact absurd b (hb j a)
    | succ k ih =>
      intro i hi hb
      refine b_M_canPut_2 (br_f (by rw [s1]; exact nI_ge (by omega) (by omega)) ⟨vIn (by omega) (by omega), ?_⟩)
      rw [nCl (by omega), s2 i (by omega)]
      have hi6 := (ho i (by omega)).1
      by_cases c : o.2 i = dd
      · exact br_nt (by rw [c]) (H0 (fun z => by have := z.1; rw [oMem_i o.1 i (by omega) c] at this; exact absurd this (by simp)))
      · refine br_nf (fun z => c ((nEq (by omega) (by omega)).mp z)) ?_
        rw [nI_1]
        refine ih (i + 1) (by omega) (fun j hj => ?_)
        by_cases y : j = i
        · rw [y]; exact c
        · exact hb j (by omega)
  exact go o.1 0 (by omega) (fun j hj => absurd hj (Nat.not_lt_zero _))
/-- all orders in turn -/
theorem dfs {α : Type} (vis : oT → α → α) (I : α → oT → Nat → Prop) (St : α → xSt → Prop) (F : Int32 → xSt → Prop)
    (hst : ∀ b S S', St b S → FrO S S' → St b S') (hctx : ∀ b S, St b S → CM S0 nd nb hd D hr S)
    (hI1 : ∀ b o d, I b o d → I b o (d + 1)) (hI2 : ∀ b o d, I b o d → I (vis (oPush o d) b) (oPush o d) 0) (hI3 : ∀ b o d, d < nd → I b (oPush o d) nd → I b o (d + 1))
    (hvis : ∀ b o d S, oOK nd (oPush o d) → I b o d → SKo (kvS S0 nb x D hd) hr (oPush o d) S → St b S → (∀ S', SKo (kvS S0 nb x D hd) hr (oPush o d) S' → St (vis (oPush o d) b) S' → M_M_nextOrder hm e x S' F) → F 1 S) :
    ∀ n o, oOK nd o → o.1 + n = nd → ∀ b, (∀ S, SKo (kvS S0 nb x D hd) hr o S → St (fk nd hr (fbS S0 nb x D hd) vis n o b) S → I (fk nd hr (fbS S0 nb x D hd) vis n o b) o nd → B_M_nextOrder_27 hm e x S F) → ∀ S, SKo (kvS S0 nb x D hd) hr o S → St b S → I b o 0 → M_M_nextOrder hm e x S F := by
  have hIk : ∀ b o d k, I b o d → I b o (d + k) := by
    intro b o d k h
    induction k with
    | zero => exact h
    | succ k ih => exact hI1 b o (d + k) ih
  intro n
  induction n with
  | zero =>
    intro o ho hl b P S hs hS hI
    have full : ∀ d, d < nd → ¬ oAl hr (fbS S0 nb x D hd) o d := fun d hd z => by have := z.1; rw [ho.full (by omega) hd] at this; exact absurd this (by simp)
    have n6 := (hctx b S hS).1
    refine e_M_nextOrder ?_
    have go : ∀ k i, i + k = nd → B_M_nextOrder_2 hm e x (nI i) S F := by
      intro k
      induction k with
      | zero =>
        intro i hi
        have : i = nd := by omega
        subst this
        have := hIk b o 0 i hI
        rw [Nat.zero_add] at this
        exact b_M_nextOrder_2 (br_t (by rw [n6.1]; exact nI_le (Nat.le_refl _) (by omega)) (P S hs hS this))
      | succ k ih =>
        intro i hi
        refine b_M_nextOrder_2 (br_f (by rw [n6.1]; exact nI_ge (by omega) (by omega)) (m_canPut (hctx b S hS) ho hs (by omega) (fun _ => br_t rfl ?_) (fun z => absurd z (full i (by omega)))))
        rw [nI_1]; exact ih (i + 1) (by omega)
    exact go nd 0 (by omega)
  | succ n ih =>
    intro o ho hl b P S hs hS hI
    have kids : ∀ m, m ≤ nd → ∀ b, (∀ S, SKo (kvS S0 nb x D hd) hr o S → St (fki nd hr (fbS S0 nb x D hd) vis (fk nd hr (fbS S0 nb x D hd) vis n) o m b) S → I (fki nd hr (fbS S0 nb x D hd) vis (fk nd hr (fbS S0 nb x D hd) vis n) o m b) o nd → B_M_nextOrder_27 hm e x S F) → ∀ S, SKo (kvS S0 nb x D hd) hr o S → St b S → I b o (nd - m) → B_M_nextOrder_2 hm e x (nI (nd - m)) S F ∧ B_M_nextOrder_56 hm e x (nI (nd - m)) S F := by
      intro m
      induction m with
      | zero =>
        intro _ b P S hs hS hI
        have n6 := (hctx b S hS).1
        have q : S.1 0 57 ≤ nI (nd - 0) := by rw [n6.1]; exact nI_le (Nat.le_refl _) (by omega)
        exact ⟨b_M_nextOrder_2 (br_t q (P S hs hS hI)), b_M_nextOrder_56 (br_t q (P S hs hS hI))⟩
      | succ m ihm =>
        intro hmn b P S hs hS hI
        have n6 := (hctx b S hS).1
        have q : ¬ S.1 0 57 ≤ nI (nd - (m + 1)) := by rw [n6.1]; exact nI_ge (by omega) (by omega)
        have e1 : nI (nd - (m + 1)) + 1 = nI (nd - m) := by rw [nI_1, show nd - (m + 1) + 1 = nd - m by omega]
        have no : ¬ oAl hr (fbS S0 nb x D hd) o (nd - (m + 1)) → B_M_nextOrder_2 hm e x (nI (nd - m)) S F ∧ B_M_nextOrder_56 hm e x (nI (nd - m)) S F := by
          intro z
          rw [fki, if_neg z] at P
          have := hI1 b o _ hI
          rw [show nd - (m + 1) + 1 = nd - m by omega] at this
          exact ihm (by omega) b P S hs hS this
        have yes : oAl hr (fbS S0 nb x D hd) o (nd - (m + 1)) → ∀ S', FrO S S' → SKo (kvS S0 nb x D hd) hr (oPush o (nd - (m + 1))) S' → F 1 S' := by
          intro z S' fr hs'
          rw [fki, if_pos z] at P
          have hp : oOK nd (oPush o (nd - (m + 1))) := ho.push (by omega) z.1
          refine hvis b o (nd - (m + 1)) S' hp hI hs' (hst b S S' hS fr) (fun S2 hs2 hS2 => ?_)
          refine ih _ hp (by show o.1 + 1 + n = nd; omega) _ (fun S3 hs3 hS3 hI3' => ?_) S2 hs2 hS2 (hI2 b o _ hI)
          -- back to the order before
          obtain ⟨k1, k2, k3, k4⟩ := hs3
          have k1 : S3.1 0 79 = nI (o.1 + 1) := k1
          have hol := ho.le
          refine b_M_nextOrder_27 (br_f (by rw [k1]; exact fun y => absurd ((nLe (b := 0) (by omega) (by omega)).mp y) (by omega)) ⟨?_, ?_⟩)
          · rw [k1, nI_pred]; exact vIn (by omega) (by omega)
          · rw [k1, nI_pred, nCl (by omega), k2 o.1 (by show o.1 < o.1 + 1; omega), oP_t, e1]
            have fr3 : FrO S3 (x_putI S3 0 79 (nI o.1)) := ⟨fun c c0 _ _ _ => gI_ne _ _ _ c0, fun j hj => by rw [gI_same, up_n _ _ hj]⟩
            have := hI3 _ o _ (by omega) hI3'
            rw [show nd - (m + 1) + 1 = nd - m by omega] at this
            refine (ihm (by omega) _ P _ ⟨rfl, fun j hj => ?_, fun j hj => ?_, fun j hj => ?_⟩ (hst _ _ _ hS3 fr3) this).2
            · show S3.1 38 j = _
              rw [k2 j (by show j < o.1 + 1; omega), oP_b o _ j hj]
            · show S3.1 39 j = _
              rw [k3 j (by show j ≤ o.1 + 1; omega), oHrs_c j (fun i hi => oP_b o _ i (by omega))]
            · show S3.1 40 j = _
              rw [k4 j (by show j ≤ o.1 + 1; omega), oKp_c j (fun i hi => oP_b o _ i (by omega))]
        refine ⟨b_M_nextOrder_2 (br_f q (m_canPut (hctx b S hS) ho hs (by omega) (fun z => br_t rfl ?_) (fun z S' fr hs' => br_f (by decide) (yes z S' fr hs')))), b_M_nextOrder_56 (br_f q (m_canPut (hctx b S hS) ho hs (by omega) (fun z => br_t rfl ?_) (fun z S' fr hs' => br_f (by decide) (yes z S' fr hs'))))⟩
        · rw [e1]; exact (no z).1
        · rw [e1]; exact (no z).2
    refine e_M_nextOrder ?_
    have := (kids nd (Nat.le_refl _) b P S hs hS (by rw [Nat.sub_self]; exact hI)).1
    rw [Nat.sub_self] at this
    exact this
end
end
