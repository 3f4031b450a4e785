section
theorem b_pre : ∀ n, n ≤ 6 → ∀ k, k < 32 → bt (oneAt (nI n) - 1) k = decide (k < n) := by decide +kernel
theorem b_not {q : Nat} (hq : q < 32) (x : Int32) {k : Nat} (hk : k < 32) : bt (x &&& (oneAt (nI q) ^^^ (-1))) k = (bt x k && !decide (k = q)) := by
  rw [b_and, b_xor, b_one q hq k hk, b_m1 k hk]
  simp
theorem co_zero {P : Nat → Prop} [DecidablePred P] {n : Nat} (hn : n ≤ 32) : fo (fun b a => if P b then a ||| oneAt (nI b) else a) n 0 = 0 ↔ ∀ i, i < n → ¬ P i := by
  constructor
  · intro h i hi hp
    have q := b_mk (P := P) hn (m := i) (by omega)
    rw [h, b_0] at q
    simp [hi, hp] at q
  · intro h
    refine b_ext fun k hk => ?_
    rw [b_mk hn hk, b_0]
    simp only [decide_eq_false_iff_not]
    exact fun z => h k z.1 z.2
variable {hc hm : xH} {d e : Nat} {S M : xSt}
theorem sim_free (hR : Rel S M) : OKi Rel (M_O_free hc d S) (M_M_free hm e M) := by
  have hR0 := hR
  obtain ⟨nm, nd, nb, nf, hd, st, hT, hM, hW, hN, hH, hB, hG, hL, hF, hA⟩ := hR
  have hb : nb ≤ 10 := hT.2.2.1.2
  have hb2 : S.1 2 6 = nI nb := hT.2.2.1.1
  have tm := hT.1.1; have t6 := hT.1.2
  obtain ⟨⟨mm, md, mb, -⟩, -, -, hbt, -⟩ := hM
  have hbs := hT.2.2.2.2.2.2.2.2.1
  -- by bits
  have hbit : ∀ n, n ≤ nb → ∀ k, k < 32 → (bt (fo (fun i a => if S.1 42 i = 0 then a &&& (oneAt (S.1 7 i) ^^^ (-1)) else a) n (oneAt (nI nm) - 1)) k = true ↔ (k < nm ∧ ∀ i, i < n → ¬ (S.1 7 i = nI k ∧ S.1 42 i = 0))) := by
    intro n
    induction n with
    | zero => intro _ k hk; show bt (oneAt (nI nm) - 1) k = true ↔ _; rw [b_pre nm t6 k hk]; simp
    | succ n ih =>
      intro hn k hk
      obtain ⟨q, hq, eq⟩ := (hbs n (by omega)).1
      have ih := ih (by omega) k hk
      show bt (if S.1 42 n = 0 then fo _ n _ &&& (oneAt (S.1 7 n) ^^^ (-1)) else fo _ n _) k = true ↔ _
      by_cases c : S.1 42 n = 0
      · rw [if_pos c, eq, b_not (by omega) _ hk, Bool.and_eq_true, ih]
        by_cases z : k = q
        · subst z
          exact ⟨fun y => by simp at y, fun y => absurd ⟨eq, c⟩ (y.2 n (by omega))⟩
        · refine ⟨fun y => ⟨y.1.1, fun i hi => ?_⟩, fun y => ⟨⟨y.1, fun i hi => y.2 i (by omega)⟩, by simp [z]⟩⟩
          by_cases w : i = n
          · subst w
            intro v
            have := v.1
            rw [eq] at this
            exact z ((nEq (by omega) (by omega)).mp this.symm)
          · exact y.1.2 i (by omega)
      · rw [if_neg c, ih]
        refine ⟨fun y => ⟨y.1, fun i hi => ?_⟩, fun y => ⟨y.1, fun i hi => y.2 i (by omega)⟩⟩
        by_cases w : i = n
        · subst w; exact fun v => c v.2
        · exact y.2 i (by omega)
  have heq : fo (fun i a => if S.1 42 i = 0 then a &&& (oneAt (S.1 7 i) ^^^ (-1)) else a) nb (oneAt (nI nm) - 1) = fo (fun m a => if coR S (nI m) 0 nb = 0 then a ||| oneAt (nI m) else a) nm 0 := by
    refine b_ext fun k hk => Bool.eq_iff_iff.mpr ?_
    rw [hbit nb (Nat.le_refl _) k hk, b_mk (by omega) hk, decide_eq_true_eq]
    exact and_congr_right (fun _ => (co_zero (n := nb) (by omega)).symm)
  refine ⟨fo (fun i a => if S.1 42 i = 0 then a &&& (oneAt (S.1 7 i) ^^^ (-1)) else a) nb (oneAt (nI nm) - 1), S, M, fun K H => e_O_free ?_, fun K H => e_M_free ?_, hR0⟩
  · rw [tm]
    refine lp_if (B := fun i a => B_O_free_14 hc d a (nI i) S K) (fun i => S.1 42 i = 0) (fun i a => a &&& (oneAt (S.1 7 i) ^^^ (-1))) nb (fun i a hi => ?_) _ (b_O_free_14 (br_t (by rw [hb2]; exact nI_le (Nat.le_refl _) (by omega)) H))
    have h0 : ¬ S.1 2 6 ≤ nI i := by rw [hb2]; exact nI_ge hi (by omega)
    have ci : (nI i).toNatClampNeg = i := nCl (by omega)
    refine ⟨fun p h => b_O_free_14 (br_f h0 (m_Co_isOn (vIn (by omega) (by omega)) ?_)), fun p h => b_O_free_14 (br_f h0 (m_Co_isOn (vIn (by omega) (by omega)) ?_))⟩
    · rw [ci, bi_pos p]; exact br_f (by decide) ⟨vIn (by omega) (by omega), b_O_free_52 (by rw [nI_1]; exact h)⟩
    · rw [ci, bi_neg p]; exact br_t rfl (b_O_free_52 (by rw [nI_1]; exact h))
  · rw [heq] at H
    refine lp_if (B := fun i a => B_M_free_4 hm e a (nI i) M K) (fun m => coR S (nI m) 0 nb = 0) (fun m a => a ||| oneAt (nI m)) nm (fun i a hi => ?_) 0 (b_M_free_4 (br_t (by rw [mm, tm]; exact nI_le (Nat.le_refl _) (by omega)) H))
    have h0 : ¬ M.1 0 56 ≤ nI i := by rw [mm, tm]; exact nI_ge hi (by omega)
    have g1 : ¬ nI i < 0 := nN0 (by omega)
    have g2 : ¬ S.1 2 0 ≤ nI i := by rw [tm]; exact nI_ge hi (by omega)
    have run : ∀ K : Int32 → xSt → Prop, K (coR S (nI i) 0 nb) M → M_M_coat hm e (nI i) 0 M K := fun K H => e_M_coat (isMan_y tm mm (by omega) g1 g2 (br_f (by decide) (isIn_y (by decide) (br_nf (by decide) (br_f (by decide) (b_M_coat_38 (m_M_coat_lp (S := S) (x2 := 0) (mb.trans hb2) hb (fun b q => (hN.1 b q).1) (fun b q => ⟨(hbt b q).1, (hbt b q).2.1⟩) H)))))))
    refine ⟨fun p h => b_M_free_4 (br_f h0 (run _ (br_nt p (b_M_free_27 (truth1 (by rw [nI_1]; exact h)))))), fun p h => b_M_free_4 (br_f h0 (run _ (br_nf p (b_M_free_27 (truth0 (by rw [or_z, nI_1]; exact h))))))⟩
-- feed
def RelA (n : Nat) (S M : xSt) : Prop := Rel S M ∧ S.1 0 1 = nI n
theorem byte_eq (x : Int32) {k : Nat} (hk : k ≤ 24) : ∃ b, b < 256 ∧ (x >>> (nI k &&& 31)) &&& 255 = nI b ∧ vp_nar .byte ((x.toUInt32 >>> ((nI k).toUInt32 &&& Int32.toUInt32 31)).toInt32).toInt8.toInt32 = (nI b).toInt8.toInt32 := by
  obtain ⟨b, hb, e⟩ := pk_andE (x >>> (nI k &&& 31)) (m := 255) 8 (by decide)
  refine ⟨b, hb, e, ?_⟩
  rw [pk_vb]
  generalize hy : (x.toUInt32 >>> ((nI k).toUInt32 &&& Int32.toUInt32 31)).toInt32 = y
  have h1 : y &&& 255 = (x >>> (nI k &&& 31)) &&& 255 := by
    refine b_ext fun i hi => ?_
    rw [b_and, b_and, b_255, ← hy, b_ushr k (by omega), b_sshr k (by omega) x hi]
    by_cases c : i < 8
    · rw [if_pos (by omega)]
    · simp [c]
  have h2 : ∀ z : Int32, z.toInt8.toInt32 = (z &&& 255).toInt8.toInt32 := by
    intro z
    have : z.toInt8 = (z &&& 255).toInt8 := by
      apply Int8.toBitVec_inj.mp
      apply BitVec.eq_of_getLsbD_eq
      intro i hi
      rw [Int32.toBitVec_toInt8, Int32.toBitVec_toInt8, BitVec.getLsbD_signExtend, BitVec.getLsbD_signExtend, if_pos (by omega), if_pos (by omega)]
      have q := b_and z 255 i
      rw [b_255] at q
      show (decide (i < 8) && bt z i) = (decide (i < 8) && bt (z &&& 255) i)
      rw [q]
      simp [hi]
    rw [this]
  rw [h2 y, h1, e]
theorem feed_one (x : Int32) {n k : Nat} (hk : k ≤ 24) (hn : n < 1600) (h : RelA n S M) : RelA (n + 1) (x_putI (x_putI S 1 n (vp_nar .byte ((x.toUInt32 >>> ((nI k).toUInt32 &&& Int32.toUInt32 31)).toInt32).toInt8.toInt32)) 0 1 (nI n + 1)) (x_putI (x_putI M 1 n ((x >>> (nI k &&& 31)) &&& 255)) 0 1 (nI n + 1)) := by
  obtain ⟨⟨nm, nd, nb, nf, hd, st, hT, hM, hW, hN, hH, hB, hG, hL, hF, ⟨n', hn', e1, e2, hb⟩⟩, e3⟩ := h
  have hnn : n' = n := (nEq (by omega) (by omega)).mp (e1.symm.trans e3)
  subst hnn
  refine ⟨⟨nm, nd, nb, nf, hd, st, hT, hM, hW, hN, hH, hB, hG, hL, hF, ⟨n' + 1, by omega, nI_1 n', nI_1 n', fun j hj => ?_⟩⟩, nI_1 n'⟩
  obtain ⟨b, h1, h2, h3⟩ := byte_eq x hk
  by_cases c : j = n'
  · subst c
    refine ⟨b, h1, ?_, ?_⟩
    · show upd (M.1 1) j _ j = _
      rw [up_s]; exact h2
    · show upd (S.1 1) j _ j = _
      rw [up_s]; exact h3
  · obtain ⟨b', g1, g2, g3⟩ := hb j (by omega)
    refine ⟨b', g1, ?_, ?_⟩
    · show upd (M.1 1) n' _ j = _
      rw [up_n _ _ c]; exact g2
    · show upd (S.1 1) n' _ j = _
      rw [up_n _ _ c]; exact g3
theorem RelA.m {n : Nat} (h : RelA n S M) : M.1 0 1 = nI n := by
  obtain ⟨⟨nm, nd, nb, nf, hd, st, hT, hM, hW, hN, hH, hB, hG, hL, hF, ⟨n', hn', e1, e2, hb⟩⟩, e3⟩ := h
  rw [e2, ← e1, e3]
theorem feed_four (x : Int32) {n : Nat} (hn : n + 4 ≤ 1600) (h : RelA n S M) : ∃ S' M', (∀ (d : Nat) (K : xSt → Prop), K S' → M_O_putOnTape hc d x S K) ∧ (∀ (e : Nat) (K : xSt → Prop), K M' → M_M_four hm e x M K) ∧ RelA (n + 4) S' M' := by
  have step : ∀ (i : Nat), i ≤ 4 → ∀ S M, RelA (n + (4 - i)) S M → ∃ S' M', (∀ (d : Nat) (K : xSt → Prop), K S' → B_O_putOnTape_3 hc d x (nI (8 * i) - 8) S K) ∧ (∀ (e : Nat) (K : xSt → Prop), K M' → B_M_four_3 hm e x (nI (8 * i) - 8) M K) ∧ RelA (n + 4) S' M' := by
    intro i
    induction i with
    | zero => intro _ S M hR; exact ⟨S, M, fun d K H => b_O_putOnTape_3 (br_t (by decide) H), fun e K H => b_M_four_3 (br_t (by decide) H), hR⟩
    | succ i ih =>
      intro hi S M hR
      have q : nI (8 * (i + 1)) - 8 = nI (8 * i) := by rw [show (8 : Int32) = nI 8 from rfl, pk_sub (by omega)]; congr 1
      have e1 := hR.2
      have e2 := hR.m
      obtain ⟨S', M', h1, h2, h3⟩ := ih (by omega) _ _ (by
        have := feed_one x (k := 8 * i) (by omega) (show n + (4 - (i + 1)) < 1600 by omega) hR
        rwa [show n + (4 - (i + 1)) + 1 = n + (4 - i) by omega] at this)
      refine ⟨S', M', fun d K H => ?_, fun e K H => ?_, h3⟩
      · rw [q]
        refine b_O_putOnTape_3 (br_f (nN0 (by omega)) ?_)
        rw [e1]
        refine br_f (nI_ge (b := 1600) (by omega) (by omega)) ⟨vIn (by omega) (by omega), b_O_putOnTape_40 ?_⟩
        rw [nCl (by omega), show nI (8 * i) + (-8) = nI (8 * i) - 8 from (Int32.sub_eq_add_neg _ 8).symm]
        exact h1 d K H
      · rw [q]
        refine b_M_four_3 (br_f (nN0 (by omega)) ?_)
        rw [e2]
        refine ⟨vIn (by omega) (by omega), ?_⟩
        rw [nCl (by omega), show nI (8 * i) + (-8) = nI (8 * i) - 8 from (Int32.sub_eq_add_neg _ 8).symm]
        exact h2 e K H
  obtain ⟨S', M', h1, h2, h3⟩ := step 4 (by omega) S M (by rw [show n + (4 - 4) = n by omega]; exact h)
  exact ⟨S', M', fun d K H => e_O_putOnTape (h1 d K H), fun e K H => e_M_four (h2 e K H), h3⟩
theorem sim_feed (hR : Rel S M) (x1 x2 x3 x4 x5 : Int32) : OKi Rel (M_O_feed hc d x1 x2 x3 x4 x5 S) (M_M_feed hm e x1 x2 x3 x4 x5 M) := by
  have hR0 := hR
  obtain ⟨nm, nd, nb, nf, hd, st, hT, hM, hW, hN, hH, hB, hG, hL, hF, ⟨n, hn, e1, e2, hb⟩⟩ := hR
  have q1 : S.1 0 1 + 20 = nI (n + 20) := by rw [e1, show (20 : Int32) = nI 20 from rfl, nI_add]
  have q2 : M.1 0 1 + 20 = nI (n + 20) := by rw [e2, show (20 : Int32) = nI 20 from rfl, nI_add]
  by_cases c : n + 20 ≤ 1600
  · have k1 : S.1 0 1 + 20 ≤ 1600 := by rw [q1]; exact nI_le (b := 1600) c (by omega)
    have k2 : M.1 0 1 + 20 ≤ 1600 := by rw [q2]; exact nI_le (b := 1600) c (by omega)
    obtain ⟨S1, M1, a1, b1, r1⟩ := feed_four (hc := hc) (hm := hm) x1 (n := n) (by omega) ⟨hR0, e1⟩
    obtain ⟨S2, M2, a2, b2, r2⟩ := feed_four (hc := hc) (hm := hm) x2 (by omega) r1
    obtain ⟨S3, M3, a3, b3, r3⟩ := feed_four (hc := hc) (hm := hm) x3 (by omega) r2
    obtain ⟨S4, M4, a4, b4, r4⟩ := feed_four (hc := hc) (hm := hm) x4 (by omega) r3
    obtain ⟨S5, M5, a5, b5, r5⟩ := feed_four (hc := hc) (hm := hm) x5 (by omega) r4
    refine ⟨S5.1 0 1, S5, M5, fun K H => e_O_feed (br_t k1 (a1 _ _ (a2 _ _ (a3 _ _ (a4 _ _ (a5 _ _ H)))))), fun K H => e_M_feed (br_t k2 (b1 _ _ (b2 _ _ (b3 _ _ (b4 _ _ (b5 _ _ ?_)))))), r5.1⟩
    rw [r5.m, ← r5.2]; exact H
  · have k1 : ¬ S.1 0 1 + 20 ≤ 1600 := by rw [q1]; exact nI_ge (a := 1600) (by omega) (by omega)
    have k2 : ¬ M.1 0 1 + 20 ≤ 1600 := by rw [q2]; exact nI_ge (a := 1600) (by omega) (by omega)
    exact ⟨_, S, M, fun K H => e_O_feed (br_f k1 H), fun K H => e_M_feed (br_f k2 H), hR0⟩
end
