section
variable {hc hm : xH} {d e : Nat} {S M : xSt}
/-- behind a part of a formula -/
def PT (t : Nat → Nat) (n dl L sl : Nat) (st cs0 : List Nat) (u0 b k v : Nat) (pend : List Nat) (u : Nat) (S M : xSt) : Prop :=
  ∃ l q p w os, QJ t n k v l q p S M ∧ b ≤ q ∧ k ≤ 5 ∧ FC (cs0 ++ w) u S ∧ FM os (pend ++ st) (dl + nots pend) u M ∧ cs0 ++ w = os ++ pend.map cod ∧ u0 < u ∧ u ≤ 30 ∧ w.length + 1 + sl ≤ 9 * (u - u0) ∧ (pend ++ st).length + 1 ≤ dl + nots pend + u ∧ (∀ o, o ∈ pend → okp o ∧ L ≤ tt o) ∧ dl + nots pend ≤ 7 ∧ ∀ a, a + (u - u0) ≤ 30 → wf w a (a + 1)
def FLx (hm : xH) (e : Nat) (P : (Int32 → xSt → Prop) → Prop) (S M : xSt) : Prop := ∃ S' M', (∀ K, K 0 S' → P K) ∧ (∀ K, K M' → UJ hm e M K) ∧ GC S S' ∧ GM M M' ∧ FJ S' M'
def FX (hm : xH) (e : Nat) (t : Nat → Nat) (n Lp L sl dl need : Nat) (nx : Nat → Nat → List Nat → Prop) (P : Nat → xSt → (Int32 → xSt → Prop) → Prop) : Prop :=
  ∀ (d k v : Nat) (l : List Nat) (q p : Nat) (S M : xSt) (cs st : List Nat) (u : Nat), need ≤ d → QJ t n k v l q p S M → k ≤ 5 → FC cs u S → FM cs st dl u M → u ≤ 30 → cs.length ≤ 9 * u → st.length ≤ dl + u → tp Lp st → (5 ≤ Lp → NN k v st) →
  (∃ S' M' k' v' pend u', (∀ K, K 1 S' → P d S K) ∧ (∀ K, WJ hm e M' K → UJ hm e M K) ∧ GC S S' ∧ GM M M' ∧ PT t n dl L sl st cs u q k' v' pend u' S' M' ∧ nx k' v' pend) ∨ FLx hm e (P d S) S M
theorem FC.p {cs : List Nat} {u u' : Nat} (h : FC cs u S) : FC cs u' (x_putI S 34 3 (nI u')) := ⟨by rw [gI_same, up_n _ _ (by decide)]; exact h.1, fun i c hi => by rw [gI_ne _ _ _ (by decide)]; exact h.2.1 i c hi, by rw [gI_same, up_s]⟩
theorem GC.p {j : Nat} {x : Int32} : GC S (x_putI S 34 j x) := ⟨fun c _ h _ => gI_ne _ _ _ h, fun _ _ => rfl⟩
section
variable {t : Nat → Nat} {n k v q p : Nat} {l : List Nat}
theorem fullM {os st : List Nat} {dp u : Nat} (hF : FM os st dp u M) (hu : u ≤ 30) {K : Int32 → xSt → Prop} (H : K (if u = 30 then 1 else 0) M) : M_M_isFull hm e M K := by
  refine m_M_isFull ?_
  rw [hF.2.2.1, hF.2.2.2.1]
  by_cases y : u = 30
  · rw [if_pos y] at H
    rw [bi_pos (Or.inr (by rw [y]; rfl))]; exact H
  · rw [if_neg y] at H
    rw [bi_neg]
    · exact H
    · rintro (z | z)
      · have := (nEq (b := 60) (by omega) (by omega)).mp z; omega
      · have := (nEq (b := 30) (by omega) (by omega)).mp z; omega
theorem FJ.g {S' M' : xSt} (h : FJ S M) (z : ZM M M') (g : S'.1 19 = S.1 19) : FJ S' M' := by
  obtain ⟨f, a, b, c, d, e⟩ := h
  exact ⟨f, a, b, by rw [g]; exact c, by rw [z.2.1 2 (by decide)]; exact d, by rw [z.2.1 3 (by decide), g]; exact e⟩
theorem Bad.g {M' : xSt} (h : Bad M) (z : ZM M M') : Bad M' := by unfold Bad; rw [z.2.1 2 (by decide)]; exact h
/-- the unit is refused -/
theorem unitF (h : QJ t n k v l q p S M) {os st : List Nat} {dp u : Nat} (hF : FM os st dp u M) (hu : u ≤ 30) (hl : st.length ≤ 100) (hd : dp ≤ 50) (no : (k = 5 ∧ v = 40 ∧ (u = 30 ∨ 6 < dp)) ∨ (¬ (k = 5 ∧ v = 40) ∧ (u = 30 ∨ (k ≠ 4 ∧ av k v = -1)))) : ∃ S' M', (∀ hc d K, K 0 S' → M_Tk_refuse hc d 2 S K) ∧ (∀ K K2 : xSt → Prop, (∀ M2, WJ hm e M2 K → K2 M2) → K M' → B_M_unit_53 hm e 1 M K2) ∧ fT S S' ∧ GM M M' ∧ FJ S' M' := by
  have f0 := h.2.f0
  obtain ⟨S', M1, r1, r2, r3, r4, r5, -⟩ := refJ h (f := 2) (by omega) (by omega)
  have s40 := (tk_sign h.1.2.2.2.2.2.1 (w := 40) (by decide)).2
  rcases no with ⟨k5, v40, no⟩ | ⟨n40, no⟩
  · have e20 : M1.1 0 20 = nI u := by rw [r4.2.2 20 (by decide)]; exact hF.2.2.1
    have e22 : M1.1 0 22 = nI u := by rw [r4.2.2 22 (by decide)]; exact hF.2.2.2.1
    have e19 : M1.1 0 19 = nI st.length := by rw [r4.2.2 19 (by decide)]; exact hF.2.2.2.2.1
    have z1 : ZM M1 (x_putI (x_putI M1 0 20 (M1.1 0 20 + 1)) 0 22 (M1.1 0 22 + 1)) := (ZM.p0 (by decide)).tr (ZM.p0 (by decide))
    have z2 : ZM (x_putI (x_putI M1 0 20 (M1.1 0 20 + 1)) 0 22 (M1.1 0 22 + 1)) (x_putI (x_putI (x_putI (x_putI (x_putI M1 0 20 (M1.1 0 20 + 1)) 0 22 (M1.1 0 22 + 1)) 7 st.length 20) 0 19 (nI st.length + 1)) 0 23 (M1.1 0 23 + 1)) := ((ZM.p (by omega)).tr (ZM.p0 (by decide))).tr (ZM.p0 (by decide))
    have bad := r5.bad.g z1
    have bad2 := bad.g z2
    refine ⟨S', _, r1, fun K K2 g H => ?_, r3, r4.g.tr (z1.tr z2).g, r5.g (z1.tr z2) rfl⟩
    have B : B_M_unit_78 hm e 1 M K2 := by
      refine b_M_unit_78 (r2 _ _ _ (b_M_unit_83 (e_M_countUnit (e_M_openUp ?_))))
      have e19' : (x_putI (x_putI M1 0 20 (M1.1 0 20 + 1)) 0 22 (M1.1 0 22 + 1)).1 0 19 = nI st.length := by rw [gI_same, up_n _ _ (by decide), gI_same, up_n _ _ (by decide)]; exact e19
      rw [e19', nCl (by omega)]
      refine ⟨vIn (by omega) (by omega), br_nf bad.2 (ufault bad2 g H)⟩
    refine b_M_unit_53 (br_nt (s40.mpr ⟨k5, v40⟩) (fullM hF hu ?_))
    by_cases y : u = 30
    · rw [if_pos y]; exact br_nf (by decide) B
    · rw [if_neg y]
      refine br_nt rfl (br_f ?_ B)
      rw [hF.2.2.2.2.2.2.1]
      exact fun z => by have := (nLe (b := 6) (by omega) (by omega)).mp z; omega
  · refine ⟨S', M1, r1, fun K K2 g H => ?_, r3, r4.g, r5⟩
    have B : ∀ x, B_M_unit_133 hm e x M K2 := fun x => b_M_unit_133 (r2 _ _ _ (b_M_unit_138 (br_f r5.bad.1 (g _ (wfault r5.bad H)))))
    have B2 : u = 30 → ∀ x, B_M_unit_126 hm e x M K2 := fun y x => b_M_unit_126 (fullM hF hu (by rw [if_pos y]; exact br_f (by decide) (B x)))
    refine b_M_unit_53 (br_nf (fun z => n40 (s40.mp z)) (b_M_unit_2 (br_t rfl (b_M_unit_101 (br_t f0.1 (askM h ?_))))))
    obtain ⟨-, t2, -⟩ := tk_num h.1.2.2.2.2.2.1
    rcases no with no | ⟨n1, n2⟩
    · by_cases y : M.1 0 6 = 2
      · exact br_t y (B2 no _)
      · refine br_f y ?_
        by_cases z : av k v < 0
        · exact br_t z (B _)
        · exact br_f z (B2 no _)
    · rw [n2]
      exact br_f (fun z => n1 (t2.mp z)) (br_t (by decide) (B _))
/-- a unit that is no bracket -/
theorem unitO (h : QJ t n k v l q p S M) {cs st : List Nat} {dl u : Nat} (hC : FC cs u S) (hF : FM cs st dl u M) (hu : u < 30) (hcs : cs.length ≤ 9 * u) (hl : st.length ≤ dl + u) (hdl : dl ≤ 7) (n40 : ¬ (k = 5 ∧ v = 40)) (op : k = 4 ∨ av k v ≠ -1) {d : Nat} : ∃ S' M' k' v', (∀ K, K 1 S' → ((¬ (x_putI S 34 3 (nI (u + 1))).1 19 4 = 4 → M_Fr_inputSign hc (d + 12) (x_putI S 34 3 (nI (u + 1))) (fun (r2) (S2) => B_Fr_readUnit_81 hc d r2 S2 K)) ∧ ((x_putI S 34 3 (nI (u + 1))).1 19 4 = 4 → B_Fr_readUnit_81 hc d ((1000) + ((x_putI S 34 3 (nI (u + 1))).1 19 5)) (x_putI S 34 3 (nI (u + 1))) K))) ∧ (∀ K K2 : xSt → Prop, (∀ M2, WJ hm e M2 K → K2 M2) → WJ hm e M' K → B_M_unit_53 hm e 1 M K2) ∧ GC S S' ∧ GM M M' ∧ PT t n dl 7 7 st cs u q k' v' [] (u + 1) S' M' := by
  have f0 := h.2.f0
  have s40 := (tk_sign h.1.2.2.2.2.2.1 (w := 40) (by decide)).2
  obtain ⟨t1, t2, t3⟩ := tk_num h.1.2.2.2.2.2.1
  -- what is put
  obtain ⟨c, s, a, hO, hE, hC1, hM1⟩ : ∃ (c : Nat) (s a : Int32), isO c ∧ wEnc (nI c) s a ∧ (∀ K, B_Fr_readUnit_81 hc d (nI c) (x_putI S 34 3 (nI (u + 1))) K → ((¬ (x_putI S 34 3 (nI (u + 1))).1 19 4 = 4 → M_Fr_inputSign hc (d + 12) (x_putI S 34 3 (nI (u + 1))) (fun (r2) (S2) => B_Fr_readUnit_81 hc d r2 S2 K)) ∧ ((x_putI S 34 3 (nI (u + 1))).1 19 4 = 4 → B_Fr_readUnit_81 hc d ((1000) + ((x_putI S 34 3 (nI (u + 1))).1 19 5)) (x_putI S 34 3 (nI (u + 1))) K))) ∧ (∀ K2 : xSt → Prop, M_M_add hm (e + 2) s a (x_putI (x_putI M 0 20 (nI (u + 1))) 0 22 (nI (u + 1))) (fun S1 => M_M_token hm (e + 1) S1 (fun S2 => K2 S2)) → B_M_unit_53 hm e 1 M K2) := by
    have hq1 : QJ t n k v l q p (x_putI S 34 3 (nI (u + 1))) M := h.fr rfl rfl rfl rfl rfl (fun _ _ _ => rfl) rfl
    have cnt : ∀ x K2, (0 ≤ x → B_M_unit_160 hm e x 1 (x_putI (x_putI M 0 20 (nI (u + 1))) 0 22 (nI (u + 1))) K2) → (¬ 0 ≤ x → B_M_unit_160 hm e x 0 (x_putI (x_putI M 0 20 (nI (u + 1))) 0 22 (nI (u + 1))) K2) → B_M_unit_126 hm e x M K2 := by
      intro x K2 H1 H2
      refine b_M_unit_126 (fullM hF (by omega) ?_)
      rw [if_neg (by omega)]
      refine br_t rfl (b_M_unit_138 (br_t f0.1 (e_M_countUnit ?_)))
      rw [hF.2.2.1, hF.2.2.2.1, nI_1]
      exact ⟨H1, H2⟩
    by_cases y : k = 4
    · obtain ⟨v1, v2, v3⟩ := t3 y
      have ak : av k v = -1 := by unfold av; rw [if_neg (by omega), if_neg (by omega), if_neg (by omega), if_neg (by omega)]
      refine ⟨1000 + v, 0, nI v, Or.inl (by omega), Or.inl ⟨rfl, v, v1, rfl, rfl⟩, fun K H => ?_, fun K2 H => ?_⟩
      · refine br_nt (t1.mpr y) ?_
        show B_Fr_readUnit_81 hc d (1000 + S.1 19 5) _ K
        rw [v2, show (1000 : Int32) = nI 1000 from rfl, nI_add]; exact H
      · refine b_M_unit_53 (br_nf (fun z => n40 (s40.mp z)) (b_M_unit_2 (br_t rfl (b_M_unit_101 (br_t f0.1 (askM h ?_))))))
        rw [ak]
        refine br_t (t2.mpr y) (cnt _ _ (fun z => absurd z (by decide)) (fun _ => b_M_unit_160 (br_f (by decide) ?_)))
        have : (x_putI (x_putI M 0 20 (nI (u + 1))) 0 22 (nI (u + 1))).1 0 8 = nI v := by
          rw [gI_same, up_n _ _ (by decide), gI_same, up_n _ _ (by decide)]; exact v3
        rw [this]; exact H
    · have nm : ¬ M.1 0 6 = 2 := fun z => y (t2.mp z)
      have nk : ¬ (x_putI S 34 3 (nI (u + 1))).1 19 4 = 4 := fun z => y (t1.mp z)
      have key : ∀ c (a : Int32), cv k v = nI c → av k v = a → 0 ≤ a → isO c → wEnc (nI c) 1 a → ∃ (c : Nat) (s a : Int32), isO c ∧ wEnc (nI c) s a ∧ (∀ K, B_Fr_readUnit_81 hc d (nI c) (x_putI S 34 3 (nI (u + 1))) K → ((¬ (x_putI S 34 3 (nI (u + 1))).1 19 4 = 4 → M_Fr_inputSign hc (d + 12) (x_putI S 34 3 (nI (u + 1))) (fun (r2) (S2) => B_Fr_readUnit_81 hc d r2 S2 K)) ∧ ((x_putI S 34 3 (nI (u + 1))).1 19 4 = 4 → B_Fr_readUnit_81 hc d ((1000) + ((x_putI S 34 3 (nI (u + 1))).1 19 5)) (x_putI S 34 3 (nI (u + 1))) K))) ∧ (∀ K2 : xSt → Prop, M_M_add hm (e + 2) s a (x_putI (x_putI M 0 20 (nI (u + 1))) 0 22 (nI (u + 1))) (fun S1 => M_M_token hm (e + 1) S1 (fun S2 => K2 S2)) → B_M_unit_53 hm e 1 M K2) := by
        intro c a h1 h2 h3 h4 h5
        refine ⟨c, 1, a, h4, h5, fun K H => br_nf nk (inC hq1 (by rw [h1]; exact H)), fun K2 H => ?_⟩
        refine b_M_unit_53 (br_nf (fun z => n40 (s40.mp z)) (b_M_unit_2 (br_t rfl (b_M_unit_101 (br_t f0.1 (askM h ?_))))))
        rw [h2]
        refine br_f nm (br_f (fun z => ?_) (cnt _ _ (fun _ => b_M_unit_160 (br_t h3 H)) (fun z => absurd h3 z)))
        exact absurd h3 (Int32.not_le.mpr z)
      have op' : av k v ≠ -1 := by
        rcases op with z | z
        · exact absurd z y
        · exact z
      by_cases c1 : k = 3 ∧ v = 12
      · exact key 116 0 (by unfold cv; rw [if_pos c1]; rfl) (by unfold av; rw [if_pos c1]) (by decide) (by unfold isO; omega) (Or.inr (Or.inl ⟨rfl, Or.inl ⟨rfl, rfl⟩⟩))
      · by_cases c2 : k = 3 ∧ v = 2
        · exact key 104 1 (by unfold cv; rw [if_neg c1, if_pos c2]; rfl) (by unfold av; rw [if_neg c1, if_pos c2]) (by decide) (by unfold isO; omega) (Or.inr (Or.inl ⟨rfl, Or.inr (Or.inl ⟨rfl, rfl⟩)⟩))
        · by_cases c3 : k = 3 ∧ v = 17
          · exact key 115 2 (by unfold cv; rw [if_neg c1, if_neg c2, if_pos c3]; rfl) (by unfold av; rw [if_neg c1, if_neg c2, if_pos c3]) (by decide) (by unfold isO; omega) (Or.inr (Or.inl ⟨rfl, Or.inr (Or.inr (Or.inl ⟨rfl, rfl⟩))⟩))
          · by_cases c4 : k = 3 ∧ v = 16
            · exact key 100 3 (by unfold cv; rw [if_neg c1, if_neg c2, if_neg c3, if_pos c4]; rfl) (by unfold av; rw [if_neg c1, if_neg c2, if_neg c3, if_pos c4]) (by decide) (by unfold isO; omega) (Or.inr (Or.inl ⟨rfl, Or.inr (Or.inr (Or.inr ⟨rfl, rfl⟩))⟩))
            · exact absurd (by unfold av; rw [if_neg c1, if_neg c2, if_neg c3, if_neg c4]) op'
  obtain ⟨S2, p1, p2, p3, p4, p5, p6⟩ := putC (c := c) (hC.p (u' := u + 1)) (by omega)
  have F1 : FM cs st dl (u + 1) (x_putI (x_putI M 0 20 (nI (u + 1))) 0 22 (nI (u + 1))) := by
    obtain ⟨g1, g2, g3, g4, g5, g6, g7, g8⟩ := hF
    exact ⟨by rw [gI_same, up_n _ _ (by decide), gI_same, up_n _ _ (by decide)]; exact g1, g2, by rw [gI_same, up_n _ _ (by decide), gI_same, up_s], by rw [gI_same, up_s], by rw [gI_same, up_n _ _ (by decide), gI_same, up_n _ _ (by decide)]; exact g5, g6, by rw [gI_same, up_n _ _ (by decide), gI_same, up_n _ _ (by decide)]; exact g7, g8⟩
  obtain ⟨M2, m1, m2, m3⟩ := addM (c := c) F1 (by omega) hE
  have z2 : ZM M M2 := ((ZM.p0 (by decide)).tr (ZM.p0 (by decide))).tr m3
  have hq2 : QJ t n k v l q p S2 M2 := (h.zm z2).fr (by rw [p5]; rfl) (by rw [p4]; rfl) (by rw [p6]; rfl) (by rw [p6]; rfl) rfl (fun _ _ _ => rfl) rfl
  have k2 : 2 ≤ k := by
    rcases op with z | z
    · omega
    · by_cases y : k = 3
      · omega
      · exact absurd (by unfold av; rw [if_neg (by omega), if_neg (by omega), if_neg (by omega), if_neg (by omega)]) z
  have qp := (h.1.2.2.2.2.2.2 k2).2.2.1
  obtain ⟨S3, M3, k3, v3, l3, q3, p3', c1, c2, c3, c4, c5, c6, c7⟩ := advJ (hc := hc) (d := d + 3) (hm := hm) (e := e + 1) hq2 k2
  have nc : ¬ nI c = -1 := nM1 (by unfold isO at hO; omega)
  refine ⟨S3, M3, k3, v3, fun K H => hC1 K (b_Fr_readUnit_81 (br_nf nc (p1 _ _ _ (c1 _ H)))), fun K K2 g H => hM1 K2 (m1 _ _ _ (c2 _ (g _ H))), GC.p.tr (p3.tr c3.g), z2.g.tr c4.g, l3, q3, p3', [c], cs ++ [c], c5, by omega, c7, p2.t c3, m2.t c4, by simp, by omega, by omega, by simp, ?_, fun o ho => absurd ho (by simp), by simp [nots]; omega, fun a ha => ?_⟩
  · simp [nots]; omega
  · simp only [wf]
    exact Or.inl ⟨hO, by omega, trivial⟩
end
end
