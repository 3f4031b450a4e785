section
variable {hc hm : xH} {d e : Nat} {S M : xSt} {t : Nat → Nat} {n q : Nat}
theorem sg_sign : ∀ b, b < 256 → ((nI b = 59 ∨ (nI b = 40 ∨ (nI b = 41 ∨ (nI b = 60 ∨ (nI b = 62 ∨ (nI b = 61 ∨ (nI b = 43 ∨ (nI b = 45 ∨ (nI b = 42 ∨ (nI b = 47 ∨ nI b = 37)))))))))) ↔ b ∈ sgL) := by decide +kernel
theorem r_pre (hM : TM t n M) (h4 : M.1 0 4 = nI q) (hq : q ≤ n) (hw : isWs t n q = false) {K : xSt → Prop} (H0 : ¬ q < n → B_M_token_232 hm e 0 (x_putI (x_putI (x_putL (x_putI M 0 7 (nI q)) 0 9 0) 0 8 0) 0 6 0) K) (H1 : isLt t n q = true → B_M_token_78 hm e 0 (x_putI (x_putL (x_putI M 0 7 (nI q)) 0 9 0) 0 8 0) K) (H2 : ¬ isLt t n q = true → isDg t n q = true → B_M_token_144 hm e 0 (x_putI (x_putL (x_putI M 0 7 (nI q)) 0 9 0) 0 8 0) K) (H3 : q < n → ¬ isLt t n q = true → ¬ isDg t n q = true → B_M_token_229 hm e 1 (if t q ∈ sgL then nI (t q) else 3) (x_putI (x_putL (x_putI M 0 7 (nI q)) 0 9 0) 0 8 0) K) : B_M_token_0 hm e M K := by
  have hn := hM.1
  refine b_M_token_0 ?_
  have v32 : ¬ hv t n (q + 0) = 32 ∧ ¬ hv t n (q + 0) = 10 := by
    unfold hv
    rw [Nat.add_zero]
    by_cases c : q < n
    · rw [if_pos c]
      have := (nI_b (t q) (hM.2.1 q c)).2.2
      exact ⟨fun z => of_decide_eq_false hw ⟨c, Or.inl (this.1.mp z)⟩, fun z => of_decide_eq_false hw ⟨c, Or.inr (this.2.mp z)⟩⟩
    · rw [if_neg c]; decide
  show M_M_here hm e (nI 0) M _
  refine here_v hM h4 (by omega) (br_f v32.1 ?_)
  show M_M_here hm e (nI 0) M _
  refine here_v hM h4 (by omega) (br_nf v32.2 ?_)
  rw [h4]
  have f1 : FTM M (x_putI M 0 7 (nI q)) := FTM.put (by omega)
  have hM1 := hM.fr f1
  have h41 : (x_putI M 0 7 (nI q)).1 0 4 = nI q := h4
  show M_M_here hm e (nI 0) (x_putI M 0 7 (nI q)) _
  refine here_v hM1 h41 (by omega) ?_
  rw [Nat.add_zero]
  have f2 : FTM M (x_putI (x_putL (x_putI M 0 7 (nI q)) 0 9 0) 0 8 0) := f1.tr (FTM.putL.tr (FTM.put (by omega)))
  have hM2 := hM.fr f2
  by_cases c : q < n
  · have t256 := hM.2.1 q c
    refine br_t (by unfold hv; rw [if_pos c]; exact nL0 (by omega)) (let_v hM2 q ?_)
    by_cases y : isLt t n q = true
    · rw [if_pos y]; exact br_f (by decide) (H1 y)
    · rw [if_neg y]
      refine br_t rfl (dig_v hM2 q ?_)
      by_cases z : isDg t n q = true
      · rw [if_pos z]; exact br_f (by decide) (H2 y z)
      · rw [if_neg z]
        refine br_t rfl (m_M_isSign ?_)
        have ev : hv t n q = nI (t q) := if_pos c
        rw [ev]
        have H := H3 c y z
        by_cases w : t q ∈ sgL
        · rw [if_pos w] at H
          rw [bi_pos ((sg_sign _ t256).mpr w)]; exact br_f (by decide) H
        · rw [if_neg w] at H
          rw [bi_neg (fun u => w ((sg_sign _ t256).mp u))]; exact br_t rfl H
  · refine br_f (by unfold hv; rw [if_neg c]; decide) (H0 c)
theorem c_pre (hC : TC t n S) (h2 : S.1 19 2 = nI q) (hq : q ≤ n) {K : xSt → Prop} (H0 : ¬ q < n → K (x_putI (x_putI S 19 3 (nI q)) 19 4 0)) (H1 : isLt t n q = true → M_Tk_takeLetters hc (d + 8) (x_putI S 19 3 (nI q)) (fun (S1) => M_Tk_wordNumber hc d (S1.2.1 19 6) S1 (fun (r2) (S2) => ((¬ (S2.1 19 4) = 2 → K (x_putI S2 19 5 r2)) ∧ ((S2.1 19 4) = 2 → ((r2 = (-1) → K (x_putI S2 19 5 r2)) ∧ (¬ r2 = (-1) → K (x_putI (x_putI S2 19 5 r2) 19 4 3)))))))) (H2 : ¬ isLt t n q = true → isDg t n q = true → M_Tk_takeDigits hc (d + 8) (x_putI S 19 3 (nI q)) (fun (S1) => K S1)) (H3 : q < n → ¬ isLt t n q = true → ¬ isDg t n q = true → B_Tk_advance_217 hc d (if t q ∈ sgL then 5 else 1) (x_putI (x_putI S 19 3 (nI q)) 19 5 (nI (t q))) K) : B_Tk_advance_52 hc d S K := by
  obtain ⟨hn, h256, ht, hr, hl⟩ := hC
  refine b_Tk_advance_52 ?_
  rw [h2, hl]
  by_cases c : q < n
  · have v : vp_in (nI q) 1600 := vIn (by omega) (by omega)
    have ev : S.1 1 (nI q).toNatClampNeg = sb (t q) := by rw [nCl (by omega), ht q c]
    have t256 := h256 q c
    have sp := sb_lt (t q) t256
    have sd := sb_digit (t q) t256
    refine br_t ((nLt (by omega) (by omega)).mpr c) ⟨hr, v, ?_⟩
    rw [ev]
    by_cases y : isLt t n q = true
    · obtain ⟨z1, z2⟩ := sp.mpr (of_decide_eq_true y).2
      exact br_f z1 ⟨hr, v, br_f z2 (H1 y)⟩
    · have e2 : (x_putI S 19 3 (nI q)).1 19 2 = nI q := h2
      have ev2 : (x_putI S 19 3 (nI q)).1 1 (nI q).toNatClampNeg = sb (t q) := ev
      have B : B_Tk_advance_146 hc d (x_putI S 19 3 (nI q)) K := by
        refine b_Tk_advance_146 ⟨hr, by rw [e2]; exact v, ?_⟩
        rw [e2, ev2]
        have e2' : (x_putI S 19 3 (nI q)).1 19 2 = nI q := h2
        by_cases z : isDg t n q = true
        · obtain ⟨z1, z2⟩ := sd.mpr (of_decide_eq_true z).2
          exact br_f z1 ⟨hr, v, br_f z2 (H2 y z)⟩
        · have B2 : B_Tk_advance_181 hc d (x_putI S 19 3 (nI q)) K := by
            refine b_Tk_advance_181 ⟨hr, by rw [e2]; exact v, ?_⟩
            rw [e2, ev2]
            have H := H3 c y z
            by_cases w : t q ∈ sgL
            · rw [if_pos w] at H
              refine br_f (fun u => (sb_sg _ t256).mp u w) ?_
              rw [sb_and _ t256]; exact H
            · rw [if_neg w] at H
              refine br_t ((sb_sg _ t256).mpr w) ?_
              rw [sb_and _ t256]; exact H
          by_cases z1 : sb (t q) < 48
          · exact br_t z1 B2
          · exact br_f z1 ⟨hr, v, br_t (Decidable.byContradiction (fun w => z (decide_eq_true ⟨c, sd.mp ⟨z1, w⟩⟩))) B2⟩
      by_cases z : sb (t q) < 97
      · exact br_t z B
      · exact br_f z ⟨hr, v, br_t (Decidable.byContradiction (fun w => y (decide_eq_true ⟨c, sp.mp ⟨z, w⟩⟩))) B⟩
  · exact br_f (fun z => c ((nLt (by omega) (by omega)).mp z)) (H0 c)
theorem adv0 {p : Nat} (hC : TC t n S) (hM : TM t n M) (hp : p ≤ n) (h2 : S.1 19 2 = nI p) (h4 : M.1 0 4 = nI p) : ∃ S' M' k v l q p', (∀ K, K S' → M_Tk_advance hc d S K) ∧ (∀ K, K M' → M_M_token hm e M K) ∧ FT S S' ∧ FTM M M' ∧ TJ t n k v l q p' S' M' ∧ p ≤ q ∧ k ≤ 5 := by
  have hn := hC.1
  obtain ⟨S1, a1, a2, a3⟩ := c_ws (hc := hc) (d := d) n p (by omega) S hC hp h2
  obtain ⟨M1, b1, b2, b3⟩ := r_ws (hm := hm) (e := e) n p (by omega) M hM hp h4
  obtain ⟨w1, w2⟩ := sg_end (t := t) (P := isWs t n) (n := n) (fun j hj => (of_decide_eq_true hj).1) n p (by omega)
  have w2 := w2 hp
  generalize hq : p + (sg t (isWs t n) n p).length = q at *
  have hpq : p ≤ q := by omega
  have hC1 := hC.fr a2
  have hM1 := hM.fr b2
  have fM3 : FTM M1 (x_putI (x_putL (x_putI M1 0 7 (nI q)) 0 9 0) 0 8 0) := (FTM.put (by omega)).tr (FTM.putL.tr (FTM.put (by omega)))
  have fS2 : FT S1 (x_putI S1 19 3 (nI q)) := FT.put (by omega)
  have hC2 := hC1.fr fS2
  have hM3 := hM1.fr fM3
  have s32 : (x_putI S1 19 3 (nI q)).1 19 2 = nI q := a3
  have m34 : (x_putI (x_putL (x_putI M1 0 7 (nI q)) 0 9 0) 0 8 0).1 0 4 = nI q := b3
  have m37 : (x_putI (x_putL (x_putI M1 0 7 (nI q)) 0 9 0) 0 8 0).1 0 7 = nI q := rfl
  have m38 : (x_putI (x_putL (x_putI M1 0 7 (nI q)) 0 9 0) 0 8 0).1 0 8 = 0 := rfl
  have m39 : (x_putI (x_putL (x_putI M1 0 7 (nI q)) 0 9 0) 0 8 0).2.1 0 9 = 0 := rfl
  by_cases c : q < n
  · by_cases y : isLt t n q = true
    · -- letters
      obtain ⟨S2, c1, c2, c3, c4, c5⟩ := c_let (hc := hc) (d := d + 8) (t := t) (n := n) n q (by omega) (x_putL (x_putI S1 19 3 (nI q)) 19 6 0) (hC2.fr FT.putL) (by omega) s32
      obtain ⟨M4, r1, r2, r3, r4⟩ := r_let (hm := hm) (e := e) (t := t) (n := n) (q := q) n 0 (by omega) _ hM3 (by omega) m34
      obtain ⟨-, l2⟩ := sg_end (t := t) (P := isLt t n) (n := n) (fun j hj => (of_decide_eq_true hj).1) n q (by omega)
      have l2 := l2 (by omega)
      have lv : vL (sg t (isLt t n) n q) := sg_all (Q := fun c => 97 ≤ c ∧ c ≤ 122) (fun j hj => (of_decide_eq_true hj).2) n q
      have lp : 0 < (sg t (isLt t n) n q).length := by
        cases n with
        | zero => omega
        | succ m => rw [sg, if_pos y]; simp
      rw [Nat.add_zero] at r1 r4
      have c5 : S2.2.1 19 6 = L5 (sg t (isLt t n) n q) := c5
      have r4 : 0 + (sg t (isLt t n) n q).length ≤ 8 → M4.2.1 0 9 = L8 (sg t (isLt t n) n q) := r4
      generalize sg t (isLt t n) n q = l at *
      have dif : S2.1 19 2 - S2.1 19 3 = nI l.length := by
        rw [c3, c4]
        show nI (q + l.length) - nI q = _
        rw [pk_sub (by omega)]; exact congrArg nI (by omega)
      have fS : FT S S2 := a2.tr (fS2.tr (FT.putL.tr c2))
      have fM : FTM M M4 := b2.tr (fM3.tr r2)
      have c43 : S2.1 19 3 = nI q := c4
      by_cases L : l.length ≤ 8
      · have ok : nmOK l := ⟨lv, L⟩
        have runM : ∀ K, K (x_putI (x_putI M4 0 6 1) 0 4 (nI (q + l.length))) → M_M_token hm e M K := by
          intro K H
          refine e_M_token (b1 K (r_pre hM1 b3 w2 w1 (fun z => absurd c z) (fun _ => r1 K ?_) (fun z => absurd y z) (fun _ z => absurd y z)))
          rw [Nat.zero_add, if_pos L]
          refine b_M_token_131 (b_M_token_232 (br_f (show ¬ (1 : Int32) = 3 by decide) ?_))
          have : (x_putI M4 0 6 1).1 0 4 + nI l.length = nI (q + l.length) := by
            show M4.1 0 4 + nI l.length = _
            rw [r3]
            show M1.1 0 4 + nI l.length = _
            rw [b3, nI_add]
          rw [this]; exact H
        have fM5 : FTM M (x_putI (x_putI M4 0 6 1) 0 4 (nI (q + l.length))) := fM.tr ((FTM.put (by omega)).tr (FTM.put (by omega)))
        have pl : (x_putI (x_putI M4 0 6 1) 0 4 (nI (q + l.length))).1 0 7 = nI q := by
          show M4.1 0 7 = nI q
          rw [r3]; rfl
        have wd : (x_putI (x_putI M4 0 6 1) 0 4 (nI (q + l.length))).2.1 0 9 = L8 l := r4 (by omega)
        have base : ∀ K r, wnF (L5 l) 0 kws = r → ((r = -1 → K (x_putI (x_putI S2 19 4 2) 19 5 r)) ∧ (¬ r = -1 → K (x_putI (x_putI (x_putI S2 19 4 2) 19 5 r) 19 4 3))) → M_Tk_advance hc d S K := by
          intro K r hr H
          refine e_Tk_advance (a1 K (c_pre hC1 a3 w2 (fun z => absurd c z) (fun _ => e_Tk_takeLetters (c1 _ (b_Tk_takeLetters_85 (br_t (by rw [dif]; exact nI_le (b := 8) L (by omega)) (m_wordN ?_))))) (fun z => absurd y z) (fun _ z => absurd y z)))
          have e6 : (x_putI S2 19 4 2).2.1 19 6 = L5 l := c5
          rw [e6, hr]
          exact br_nt rfl H
        rcases wnF_s ok kws 0 kws_ok with ⟨j, h1, h3, h5⟩ | ⟨h1, h3⟩
        · rw [kw_len] at h1
          rw [Nat.zero_add] at h5
          have fin : FT S (x_putI (x_putI (x_putI S2 19 4 2) 19 5 (nI j)) 19 4 3) := fS.tr ((FT.put (by omega)).tr ((FT.put (by omega)).tr (FT.put (by omega))))
          refine ⟨_, _, 3, j, l, q, q + l.length, fun K H => base K (nI j) h5 ⟨fun z => absurd z (nM1 (by omega)), fun _ => H⟩, runM, fin, fM5, ⟨hC.fr fin, hM.fr fM5, ?_, pl, w2, ⟨rfl, Or.inr (Or.inr (Or.inr (Or.inl ⟨rfl, h1, rfl, rfl, ?_⟩)))⟩, fun _ => ⟨?_, rfl, by omega, l2⟩⟩, hpq, by omega⟩
          · exact c43
          · rw [wd, h3]; rfl
          · exact c3
        · have fin : FT S (x_putI (x_putI S2 19 4 2) 19 5 (-1)) := fS.tr ((FT.put (by omega)).tr (FT.put (by omega)))
          refine ⟨_, _, 2, 0, l, q, q + l.length, fun K H => base K (-1) h1 ⟨fun _ => H, fun z => absurd rfl z⟩, runM, fin, fM5, ⟨hC.fr fin, hM.fr fM5, ?_, pl, w2, ⟨rfl, Or.inr (Or.inr (Or.inl ⟨rfl, rfl, ?_, wd, ok, h3⟩))⟩, fun _ => ⟨?_, rfl, by omega, l2⟩⟩, hpq, by omega⟩
          · exact c43
          · exact c5
          · exact c3
      · have runM : ∀ K, K (x_putI M4 0 6 3) → M_M_token hm e M K := by
          intro K H
          refine e_M_token (b1 K (r_pre hM1 b3 w2 w1 (fun z => absurd c z) (fun _ => r1 K ?_) (fun z => absurd y z) (fun _ z => absurd y z)))
          rw [Nat.zero_add, if_neg L]
          exact b_M_token_131 (b_M_token_232 (br_t rfl H))
        have fM5 : FTM M (x_putI M4 0 6 3) := fM.tr (FTM.put (by omega))
        have pl : (x_putI M4 0 6 3).1 0 7 = nI q := by
          show M4.1 0 7 = nI q
          rw [r3]; rfl
        have fin : FT S (x_putI (x_putI S2 19 4 1) 19 5 (wnF (S2.2.1 19 6) 0 kws)) := fS.tr ((FT.put (by omega)).tr (FT.put (by omega)))
        refine ⟨_, _, 1, 0, l, q, q, fun K H => e_Tk_advance (a1 K (c_pre hC1 a3 w2 (fun z => absurd c z) (fun _ => e_Tk_takeLetters (c1 _ (b_Tk_takeLetters_85 (br_f (by rw [dif]; exact nI_ge (a := 8) (by omega) (by omega)) (m_wordN (br_nf (show ¬ (1 : Int32) = 2 by decide) H)))))) (fun z => absurd y z) (fun _ z => absurd y z))), runM, fin, fM5, ⟨hC.fr fin, hM.fr fM5, ?_, pl, w2, ⟨rfl, Or.inr (Or.inl ⟨rfl, rfl⟩)⟩, fun z => absurd z (by omega)⟩, hpq, by omega⟩
        exact c43
    · by_cases z : isDg t n q = true
      · -- digits
        obtain ⟨S2, c1, c2, c3, c4, c5⟩ := c_dig (hc := hc) (d := d + 8) (t := t) (n := n) n q (by omega) (x_putI (x_putI S1 19 3 (nI q)) 19 5 0) (hC2.fr (FT.put (by omega))) (by omega) s32
        obtain ⟨M4, r1, r2, r3, r4, r5, r6⟩ := r_dig (hm := hm) (e := e) (t := t) (n := n) (q := q) n 0 (by omega) _ hM3 (by omega) m34
        obtain ⟨l1, l2⟩ := sg_end (t := t) (P := isDg t n) (n := n) (fun j hj => (of_decide_eq_true hj).1) n q (by omega)
        have l2 := l2 (by omega)
        have lv : ∀ c, c ∈ sg t (isDg t n) n q → 48 ≤ c ∧ c ≤ 57 := sg_all (Q := fun c => 48 ≤ c ∧ c ≤ 57) (fun j hj => (of_decide_eq_true hj).2) n q
        have lp : 0 < (sg t (isDg t n) n q).length := by
          cases n with
          | zero => omega
          | succ m => rw [sg, if_pos z]; simp
        rw [Nat.add_zero] at r1 r6
        have c5 : S2.1 19 5 = (sg t (isDg t n) n q).foldl s10 0 := c5
        have r6 : 0 + (sg t (isDg t n) n q).length ≤ 4 → M4.1 0 8 = (sg t (isDg t n) n q).foldl t10 0 := r6
        generalize sg t (isDg t n) n q = l at *
        have c43 : S2.1 19 3 = nI q := c4
        have r5' : M4.1 0 7 = nI q := r5
        have dif : S2.1 19 2 - S2.1 19 3 = nI l.length := by
          rw [c3, c43, pk_sub (by omega)]; exact congrArg nI (by omega)
        have fS : FT S S2 := a2.tr (fS2.tr ((FT.put (by omega)).tr c2))
        have fM : FTM M M4 := b2.tr (fM3.tr r2)
        have hCS := hC.fr fS
        obtain ⟨-, k256, kt, kr, kl⟩ := hCS
        -- the class behind its digits
        have runC : ∀ K, K (x_putI S2 19 4 (if 4 < l.length ∨ isLt t n (q + l.length) = true then 1 else 4)) → M_Tk_advance hc d S K := by
          intro K H
          refine e_Tk_advance (a1 K (c_pre hC1 a3 w2 (fun z => absurd c z) (fun w => absurd w y) (fun _ _ => e_Tk_takeDigits (c1 _ ?_)) (fun _ _ w => absurd z w)))
          have last : ∀ s : Int32, (s = if isLt t n (q + l.length) = true then 1 else 0) → B_Tk_takeDigits_125 hc (d + 8) s S2 (fun S1 => K S1) := by
            intro s hs
            refine b_Tk_takeDigits_125 ?_
            rw [dif]
            by_cases u : 4 < l.length
            · rw [if_pos (Or.inl u)] at H
              exact br_t ((nLt (a := 4) (by omega) (by omega)).mpr u) H
            · refine br_f (fun w => u ((nLt (a := 4) (by omega) (by omega)).mp w)) ?_
              by_cases w : isLt t n (q + l.length) = true
              · rw [if_pos (Or.inr w)] at H
                rw [if_pos w] at hs
                exact br_f (by rw [hs]; decide) H
              · rw [if_neg (fun x => by rcases x with x | x; exact u x; exact w x)] at H
                rw [if_neg w] at hs
                exact br_t hs H
          refine b_Tk_takeDigits_81 ?_
          rw [kl, c3]
          by_cases u : q + l.length < n
          · have v : vp_in (nI (q + l.length)) 1600 := vIn (by omega) (by omega)
            have ev : S2.1 1 (nI (q + l.length)).toNatClampNeg = sb (t (q + l.length)) := by rw [nCl (by omega), kt _ u]
            have sp := sb_lt _ (k256 _ u)
            refine br_f (nI_ge u (by omega)) ⟨kr, v, ?_⟩
            rw [ev]
            by_cases w : isLt t n (q + l.length) = true
            · obtain ⟨z1, z2⟩ := sp.mpr (of_decide_eq_true w).2
              exact br_f z1 ⟨kr, v, br_f z2 (last 1 (by rw [if_pos w]))⟩
            · have la := b_Tk_takeDigits_124 (last 0 (by rw [if_neg w]))
              by_cases z1 : sb (t (q + l.length)) < 97
              · exact br_t z1 la
              · exact br_f z1 ⟨kr, v, br_t (Decidable.byContradiction (fun x => w (decide_eq_true ⟨u, sp.mp ⟨z1, x⟩⟩))) la⟩
          · exact br_t (nI_le (by omega) (by omega)) (b_Tk_takeDigits_124 (last 0 (by rw [if_neg (fun x => u (of_decide_eq_true x).1)])))
        by_cases bad : 4 < l.length ∨ isLt t n (q + l.length) = true
        · rw [if_pos bad] at runC
          have fin : FT S (x_putI S2 19 4 1) := fS.tr (FT.put (by omega))
          have fM5 : FTM M (x_putI M4 0 6 3) := fM.tr (FTM.put (by omega))
          refine ⟨_, _, 1, 0, l, q, q, runC, fun K H => ?_, fin, fM5, ⟨hC.fr fin, hM.fr fM5, c43, r5', w2, ⟨rfl, Or.inr (Or.inl ⟨rfl, rfl⟩)⟩, fun z => absurd z (by omega)⟩, hpq, by omega⟩
          refine e_M_token (b1 K (r_pre hM1 b3 w2 w1 (fun z => absurd c z) (fun w => absurd w y) (fun _ _ => r1 K ?_) (fun _ _ w => absurd z w)))
          rw [Nat.zero_add, if_pos bad]
          exact b_M_token_208 (b_M_token_232 (br_t rfl H))
        · rw [if_neg bad] at runC
          have L4 : l.length ≤ 4 := by
            rcases Nat.lt_or_ge 4 l.length with x | x
            · exact absurd (Or.inl x) bad
            · exact x
          have nv := n10_lt l 0 lv
          have p4 : 10 ^ l.length ≤ 10 ^ 4 := Nat.pow_le_pow_right (by omega) L4
          have e5 : S2.1 19 5 = nI (l.foldl (fun a c => a * 10 + (c - 48)) 0) := by rw [c5]; exact n10 l 0 (fun c hc => (lv c hc).1)
          have e8 : M4.1 0 8 = nI (l.foldl (fun a c => a * 10 + (c - 48)) 0) := by rw [r6 (by omega)]; exact n10' l 0 (fun c hc => (lv c hc).1)
          generalize l.foldl (fun a c => a * 10 + (c - 48)) 0 = v at *
          have fin : FT S (x_putI S2 19 4 4) := fS.tr (FT.put (by omega))
          have fM5 : FTM M (x_putI (x_putI M4 0 6 2) 0 4 (nI (q + l.length))) := fM.tr ((FTM.put (by omega)).tr (FTM.put (by omega)))
          refine ⟨_, _, 4, v, l, q, q + l.length, runC, fun K H => ?_, fin, fM5, ⟨hC.fr fin, hM.fr fM5, c43, r5', w2, ⟨rfl, Or.inr (Or.inr (Or.inr (Or.inr (Or.inl ⟨rfl, by omega, e5, rfl, e8⟩))))⟩, fun _ => ⟨c3, rfl, by omega, l2⟩⟩, hpq, by omega⟩
          refine e_M_token (b1 K (r_pre hM1 b3 w2 w1 (fun z => absurd c z) (fun w => absurd w y) (fun _ _ => r1 K ?_) (fun _ _ w => absurd z w)))
          rw [Nat.zero_add, if_neg bad]
          refine b_M_token_208 (b_M_token_232 (br_f (show ¬ (2 : Int32) = 3 by decide) ?_))
          have : (x_putI M4 0 6 2).1 0 4 + nI l.length = nI (q + l.length) := by
            show M4.1 0 4 + nI l.length = _
            rw [r4, nI_add]
          rw [this]; exact H
      · -- a sign
        have t256 := hC.2.1 q c
        by_cases w : t q ∈ sgL
        · have fin : FT S (x_putI (x_putI (x_putI (x_putI S1 19 3 (nI q)) 19 5 (nI (t q))) 19 4 5) 19 2 (nI (q + 1))) := a2.tr ((FT.put (by omega)).tr ((FT.put (by omega)).tr ((FT.put (by omega)).tr (FT.put (by omega)))))
          have fM5 : FTM M (x_putI (x_putI (x_putI (x_putL (x_putI M1 0 7 (nI q)) 0 9 0) 0 8 0) 0 6 (nI (t q))) 0 4 (nI (q + 1))) := b2.tr (fM3.tr ((FTM.put (by omega)).tr (FTM.put (by omega))))
          refine ⟨_, _, 5, t q, [], q, q + 1, fun K H => ?_, fun K H => ?_, fin, fM5, ⟨hC.fr fin, hM.fr fM5, rfl, rfl, w2, ⟨rfl, Or.inr (Or.inr (Or.inr (Or.inr (Or.inr ⟨rfl, w, rfl, rfl⟩))))⟩, fun _ => ⟨rfl, rfl, by omega, by omega⟩⟩, hpq, by omega⟩
          · refine e_Tk_advance (a1 K (c_pre hC1 a3 w2 (fun z => absurd c z) (fun u => absurd u y) (fun _ u => absurd u z) (fun _ _ _ => ?_)))
            rw [if_pos w]
            refine b_Tk_advance_217 ?_
            have e2 : (x_putI (x_putI S1 19 3 (nI q)) 19 5 (nI (t q))).1 19 2 + 1 = nI (q + 1) := by
              show S1.1 19 2 + 1 = _
              rw [a3, nI_1]
            rw [e2]; exact H
          · refine e_M_token (b1 K (r_pre hM1 b3 w2 w1 (fun z => absurd c z) (fun u => absurd u y) (fun _ u => absurd u z) (fun _ _ _ => ?_)))
            rw [if_pos w]
            have n3 : ¬ nI (t q) = 3 := fun u => by
              have := (nEq (b := 3) (by omega) (by omega)).mp u
              rw [this] at w; exact absurd w (by decide)
            refine b_M_token_229 (b_M_token_232 (br_f n3 ?_))
            have e2 : (x_putI (x_putI (x_putL (x_putI M1 0 7 (nI q)) 0 9 0) 0 8 0) 0 6 (nI (t q))).1 0 4 + 1 = nI (q + 1) := by
              show M1.1 0 4 + 1 = _
              rw [b3, nI_1]
            rw [e2]; exact H
        · have fin : FT S (x_putI (x_putI (x_putI (x_putI S1 19 3 (nI q)) 19 5 (nI (t q))) 19 4 1) 19 2 (nI (q + 1))) := a2.tr ((FT.put (by omega)).tr ((FT.put (by omega)).tr ((FT.put (by omega)).tr (FT.put (by omega)))))
          have fM5 : FTM M (x_putI (x_putI (x_putL (x_putI M1 0 7 (nI q)) 0 9 0) 0 8 0) 0 6 3) := b2.tr (fM3.tr (FTM.put (by omega)))
          refine ⟨_, _, 1, 0, [], q, q, fun K H => ?_, fun K H => ?_, fin, fM5, ⟨hC.fr fin, hM.fr fM5, rfl, rfl, w2, ⟨rfl, Or.inr (Or.inl ⟨rfl, rfl⟩)⟩, fun z => absurd z (by omega)⟩, hpq, by omega⟩
          · refine e_Tk_advance (a1 K (c_pre hC1 a3 w2 (fun z => absurd c z) (fun u => absurd u y) (fun _ u => absurd u z) (fun _ _ _ => ?_)))
            rw [if_neg w]
            refine b_Tk_advance_217 ?_
            have e2 : (x_putI (x_putI S1 19 3 (nI q)) 19 5 (nI (t q))).1 19 2 + 1 = nI (q + 1) := by
              show S1.1 19 2 + 1 = _
              rw [a3, nI_1]
            rw [e2]; exact H
          · refine e_M_token (b1 K (r_pre hM1 b3 w2 w1 (fun z => absurd c z) (fun u => absurd u y) (fun _ u => absurd u z) (fun _ _ _ => ?_)))
            rw [if_neg w]
            exact b_M_token_229 (b_M_token_232 (br_t rfl H))
  · -- the end
    have y : ¬ isLt t n q = true := fun z => c (of_decide_eq_true z).1
    have z : ¬ isDg t n q = true := fun z => c (of_decide_eq_true z).1
    have fin : FT S (x_putI (x_putI S1 19 3 (nI q)) 19 4 0) := a2.tr ((FT.put (by omega)).tr (FT.put (by omega)))
    have fM5 : FTM M (x_putI (x_putI (x_putI (x_putL (x_putI M1 0 7 (nI q)) 0 9 0) 0 8 0) 0 6 0) 0 4 (nI q)) := b2.tr (fM3.tr ((FTM.put (by omega)).tr (FTM.put (by omega))))
    refine ⟨_, _, 0, 0, [], q, q, fun K H => ?_, fun K H => ?_, fin, fM5, ⟨hC.fr fin, hM.fr fM5, rfl, rfl, w2, ⟨rfl, Or.inl ⟨rfl, rfl⟩⟩, fun z => absurd z (by omega)⟩, hpq, by omega⟩
    · exact e_Tk_advance (a1 K (c_pre hC1 a3 w2 (fun _ => H) (fun u => absurd u y) (fun _ u => absurd u z) (fun u => absurd u c)))
    · refine e_M_token (b1 K (r_pre hM1 b3 w2 w1 (fun _ => b_M_token_232 (br_f (show ¬ (0 : Int32) = 3 by decide) ?_)) (fun u => absurd u y) (fun _ u => absurd u z) (fun u => absurd u c)))
      have e2 : (x_putI (x_putI (x_putL (x_putI M1 0 7 (nI q)) 0 9 0) 0 8 0) 0 6 0).1 0 4 + 0 = nI q := by
        show M1.1 0 4 + 0 = _
        rw [b3, Int32.add_zero]
      rw [e2]; exact H
end
