section
/-- a loop downward: f is done for n - 1 .. 0 -/
def fd {α : Type} (f : Nat → α → α) : Nat → α → α
  | 0, a => a
  | n + 1, a => fd f n (f n a)
theorem lp_dn {α : Type} {B : Nat → α → Prop} (f : Nat → α → α) (n : Nat) (hs : ∀ i a, i < n → B i (f i a) → B (i + 1) a) : ∀ a, B 0 (fd f n a) → B n a := by
  induction n with
  | zero => intro a H; exact H
  | succ n ih => intro a H; exact hs n a (by omega) (ih (fun i a hi => hs i a (by omega)) _ H)
theorem add_m1 (x : Int32) : x + (-1) = x - 1 := (Int32.sub_eq_add_neg x 1).symm
theorem or_ac (a b c : Int32) : (a ||| b) ||| c = (a ||| c) ||| b := by rw [Int32.or_assoc, Int32.or_comm b c, ← Int32.or_assoc]
theorem b_mk {P : Nat → Prop} [DecidablePred P] {n : Nat} (hn : n ≤ 32) {m : Nat} (hm : m < 32) : bt (fo (fun b a => if P b then a ||| oneAt (nI b) else a) n 0) m = decide (m < n ∧ P m) := by
  induction n with
  | zero => rw [show fo (fun b a => if P b then a ||| oneAt (nI b) else a) 0 0 = (0 : Int32) from rfl, b_0]; simp
  | succ n ih =>
    have ih := ih (by omega)
    show bt (if P n then fo (fun b a => if P b then a ||| oneAt (nI b) else a) n 0 ||| oneAt (nI n) else fo (fun b a => if P b then a ||| oneAt (nI b) else a) n 0) m = _
    by_cases c : P n
    · rw [if_pos c, b_or, ih, b_one n (by omega) m hm]
      by_cases e : m = n
      · subst e; simp [c]
      · have q : (m < n + 1) ↔ (m < n) := by omega
        simp [e, q]
    · rw [if_neg c, ih]
      by_cases e : m = n
      · subst e; simp [c]
      · have q : (m < n + 1) ↔ (m < n) := by omega
        simp [q]
theorem stF (S : xSt) {c o : Nat} (hco : c ≠ o) (j k : Nat) (g : Nat → Int32) (u v w : Int32) : x_putI (x_putI (x_putI (x_putA S c g) o k u) c j v) o k w = x_putI (x_putA S c (upd g j v)) o k w := by
  unfold x_putI x_putA
  congr 1
  funext q
  by_cases h1 : q = o
  · subst h1
    have h2 : ¬ q = c := fun z => hco z.symm
    simp only [h2, if_false, if_true]
    funext t
    unfold upd
    by_cases h3 : t = k
    · simp [h3]
    · simp [h3]
  · by_cases h2 : q = c
    · subst h2; simp [h1]
    · simp [h1, h2]
variable {hc hm : xH} {d e : Nat} {S M : xSt}
abbrev lvB (S : xSt) (x1 x2 : Int32) (b : Nat) : Prop := S.1 42 b = 0 ∧ S.1 7 b = x1 ∧ S.1 9 b = x2 ∧ S.1 10 b = 0 ∧ ¬ S.1 11 b < S.1 42 20
abbrev lvW (S : xSt) (b : Nat) : Prop := ¬ S.1 13 b < 0 ∧ S.1 42 (S.1 13 b).toNatClampNeg = 0
abbrev lvV (S : xSt) (x1 x2 : Int32) (b : Nat) (V : Int32) : Int32 := if lvB S x1 x2 b then V ||| oneAt (nI b) else V
abbrev lvG (S : xSt) (b : Nat) (V : Int32) : Int32 := if bt V b = true ∧ lvW S b then V ||| oneAt (S.1 13 b) else V
abbrev lvM (S : xSt) (x1 x2 : Int32) (n : Nat) : Int32 := fo (fun b a => if lvB S x1 x2 b then a ||| oneAt (nI b) else a) n 0
theorem lv_eq (x1 x2 : Int32) {n : Nat} (hn : n ≤ 32) : ∀ V, fd (lvG S) n (V ||| lvM S x1 x2 n) = fd (fun b V => lvG S b (lvV S x1 x2 b V)) n V := by
  induction n with
  | zero => intro V; show V ||| (0 : Int32) = V; simp
  | succ n ih =>
    intro V
    show fd (lvG S) n (lvG S n (V ||| lvM S x1 x2 (n + 1))) = fd _ n (lvG S n (lvV S x1 x2 n V))
    have h1 : V ||| lvM S x1 x2 (n + 1) = lvV S x1 x2 n V ||| lvM S x1 x2 n := by
      show V ||| (if lvB S x1 x2 n then lvM S x1 x2 n ||| oneAt (nI n) else lvM S x1 x2 n) = (if lvB S x1 x2 n then V ||| oneAt (nI n) else V) ||| lvM S x1 x2 n
      by_cases c : lvB S x1 x2 n
      · rw [if_pos c, if_pos c, ← Int32.or_assoc, or_ac]
      · rw [if_neg c, if_neg c]
    have h2 : lvG S n (lvV S x1 x2 n V ||| lvM S x1 x2 n) = lvG S n (lvV S x1 x2 n V) ||| lvM S x1 x2 n := by
      generalize lvV S x1 x2 n V = V1
      have h3 : bt (V1 ||| lvM S x1 x2 n) n = bt V1 n := by
        rw [b_or, b_mk (by omega) (by omega)]; simp
      show (if bt (V1 ||| lvM S x1 x2 n) n = true ∧ lvW S n then (V1 ||| lvM S x1 x2 n) ||| oneAt (S.1 13 n) else V1 ||| lvM S x1 x2 n) = (if bt V1 n = true ∧ lvW S n then V1 ||| oneAt (S.1 13 n) else V1) ||| lvM S x1 x2 n
      rw [h3]
      by_cases c : bt V1 n = true ∧ lvW S n
      · rw [if_pos c, if_pos c, or_ac]
      · rw [if_neg c, if_neg c]
    rw [h1, h2]
    exact ih (by omega) _
abbrev lvR (S : xSt) (x1 x2 : Int32) (n : Nat) : Int32 := fd (fun b V => lvG S b (lvV S x1 x2 b V)) n 0
theorem m_leaveBits {nb : Nat} (hn : S.1 2 6 = nI nb) (hb : nb ≤ 10) (ha : ∀ b, b < nb → S.1 13 b = -1 ∨ ∃ k, k < b ∧ S.1 13 b = nI k) {x1 x2 : Int32} {K : Int32 → xSt → Prop} (H : K (lvR S x1 x2 nb) S) : M_Co_leaveBits hc d x1 x2 S K := by
  refine e_Co_leaveBits ?_
  rw [hn]
  refine lp_dn (B := fun i V => B_Co_leaveBits_13 hc d x1 x2 V (nI i - 1) S K) (fun b V => lvG S b (lvV S x1 x2 b V)) nb (fun i V hi ih => ?_) 0 (b_Co_leaveBits_13 (br_t (by decide) H))
  rw [nI_pred]
  have ci : (nI i).toNatClampNeg = i := nCl (by omega)
  have v10 : vp_in (nI i) 10 := vIn (by omega) (by omega)
  have v23 : vp_in (nI i) 23 := vIn (by omega) (by omega)
  have st : B_Co_leaveBits_79 hc d x1 x2 (lvV S x1 x2 i V) (nI i) S K := by
    generalize lvV S x1 x2 i V = V1 at ih
    have fin : ∀ V2, V2 = lvG S i V1 → B_Co_leaveBits_112 hc d x1 x2 V2 (nI i) S K := by
      intro V2 h
      refine b_Co_leaveBits_112 ?_
      rw [add_m1, h]; exact ih
    refine b_Co_leaveBits_79 ?_
    by_cases c : bt V1 i = true
    · refine br_f (fun z => by rw [and_one V1 (by omega), c] at z; cases z) ?_
      rcases ha i hi with h | ⟨k, hk, h⟩
      · exact waits_0 (by omega) h (br_t rfl (fin V1 (by show _ = if _ then _ else _; rw [if_neg (fun z => z.2.1 (by rw [h]; exact m1_lt))])))
      · have ck : (S.1 13 i).toNatClampNeg = k := by rw [h]; exact nCl (by omega)
        by_cases c2 : S.1 42 k = 0
        · refine waits_y hn hb hi (by omega) h c2 (br_f (by decide) ⟨v10, ?_⟩)
          rw [ci]
          exact fin _ (by show _ = if _ then _ else _; rw [if_pos ⟨c, by rw [h]; exact nN0 (by omega), by rw [ck]; exact c2⟩])
        · exact waits_f (by omega) (by omega) h c2 (br_t rfl (fin V1 (by show _ = if _ then _ else _; rw [if_neg (fun z => c2 (by have := z.2.2; rwa [ck] at this))])))
    · exact br_t ((and_one V1 (by omega)).mpr (by simpa using c)) (fin V1 (by show _ = if _ then _ else _; rw [if_neg (fun z => c z.1)]))
  have nn : ¬ nI i < 0 := nN0 (by omega)
  refine b_Co_leaveBits_13 (br_f nn (m_Co_isOnMan v23 (fun _ => v10) ?_))
  rw [ci]
  by_cases c1 : S.1 42 i = 0 ∧ S.1 7 i = x1
  · rw [bi_pos c1]
    refine br_f (by decide) ⟨v10, ?_⟩
    by_cases c2 : S.1 9 i = x2
    · refine br_nt c2 ⟨v10, ?_⟩
      by_cases c3 : S.1 10 i = 0
      · refine br_nt c3 ⟨v10, m_Co_today ?_⟩
        by_cases c4 : S.1 11 i < S.1 42 20
        · refine br_t c4 ?_
          unfold lvV at st
          rw [if_neg (fun z => z.2.2.2.2 c4)] at st; exact st
        · refine br_f c4 ?_
          unfold lvV at st
          rw [if_pos ⟨c1.1, c1.2, c2, c3, c4⟩] at st; exact st
      · refine br_nf c3 ?_
        unfold lvV at st
        rw [if_neg (fun z => c3 z.2.2.2.1)] at st; exact st
    · refine br_nf c2 ?_
      unfold lvV at st
      rw [if_neg (fun z => c2 z.2.2.1)] at st; exact st
  · rw [bi_neg c1]
    refine br_t rfl ?_
    unfold lvV at st
    rw [if_neg (fun z => c1 ⟨z.1, z.2.1⟩)] at st; exact st
theorem m_leaving {nb : Nat} (hn : M.1 0 58 = nI nb) (hb : nb ≤ 10) (hN : ∀ b, b < nb → M.1 34 b = S.1 42 b) (h20 : M.1 34 20 = S.1 42 20) (hg : ∀ b, b < nb → M.1 26 b = S.1 7 b ∧ M.1 28 b = S.1 9 b ∧ M.1 33 b = S.1 10 b ∧ M.1 29 b = S.1 11 b ∧ M.1 31 b = S.1 13 b) (ha : ∀ b, b < nb → S.1 13 b = -1 ∨ ∃ k, k < b ∧ S.1 13 b = nI k) {x1 x2 : Int32} {K : Int32 → xSt → Prop} (H : K (lvR S x1 x2 nb) M) : M_M_leaving hm e x1 x2 M K := by
  refine e_M_leaving ?_
  refine lp_if (B := fun i a => B_M_leaving_5 hm e x1 x2 a (nI i) M K) (fun b => lvB S x1 x2 b) (fun b a => a ||| oneAt (nI b)) nb (fun i a hi => ?_) 0 (b_M_leaving_5 (br_t (by rw [hn]; exact nI_le (Nat.le_refl _) (by omega)) ?_))
  · have h0 : ¬ M.1 0 58 ≤ nI i := by rw [hn]; exact nI_ge hi (by omega)
    have ci : (nI i).toNatClampNeg = i := nCl (by omega)
    have v10 : vp_in (nI i) 10 := vIn (by omega) (by omega)
    obtain ⟨g1, g2, g3, g4, g5⟩ := hg i hi
    have no : B_M_leaving_5 hm e x1 x2 a (nI (i + 1)) M K → B_M_leaving_77 hm e x1 x2 (nI i) a M K := fun h => b_M_leaving_77 (b_M_leaving_78 (truth0 (by rw [or_z, nI_1]; exact h)))
    refine ⟨fun p h => b_M_leaving_5 (br_f h0 (isOn_y (by omega) ((hN i hi).trans p.1) (br_f (by decide) ⟨v10, ?_⟩))), fun p h => b_M_leaving_5 (br_f h0 ?_)⟩
    · rw [ci, g1, g2, g3, g4, h20]
      exact br_nt p.2.1 ⟨v10, br_nt p.2.2.1 ⟨v10, br_nt p.2.2.2.1 ⟨v10, br_f p.2.2.2.2 (b_M_leaving_78 (truth1 (by rw [nI_1]; exact h)))⟩⟩⟩
    · by_cases c1 : S.1 42 i = 0
      · refine isOn_y (by omega) ((hN i hi).trans c1) (br_f (by decide) ⟨v10, ?_⟩)
        rw [ci, g1, g2, g3, g4, h20]
        by_cases c2 : S.1 7 i = x1
        · refine br_nt c2 ⟨v10, ?_⟩
          by_cases c3 : S.1 9 i = x2
          · refine br_nt c3 ⟨v10, ?_⟩
            by_cases c4 : S.1 10 i = 0
            · refine br_nt c4 ⟨v10, ?_⟩
              by_cases c5 : S.1 11 i < S.1 42 20
              · exact br_t c5 (no h)
              · exact absurd ⟨c1, c2, c3, c4, c5⟩ p
            · exact br_nf c4 (no h)
          · exact br_nf c3 (no h)
        · exact br_nf c2 (no h)
      · exact isOn_n (by omega) (by rw [hN i hi]; exact c1) (br_t rfl (no h))
  · show B_M_leaving_100 hm e (lvM S x1 x2 nb) (M.1 0 58 - 1) M K
    rw [hn]
    refine lp_dn (B := fun i V => B_M_leaving_100 hm e V (nI i - 1) M K) (lvG S) nb (fun i V hi ih => ?_) _ (b_M_leaving_100 (br_t (by decide) ?_))
    · rw [nI_pred]
      have ci : (nI i).toNatClampNeg = i := nCl (by omega)
      have v10 : vp_in (nI i) 10 := vIn (by omega) (by omega)
      obtain ⟨g1, g2, g3, g4, g5⟩ := hg i hi
      have fin : ∀ V2, V2 = lvG S i V → B_M_leaving_151 hm e V2 (nI i) M K := by
        intro V2 h
        refine b_M_leaving_151 ?_
        rw [add_m1, h]; exact ih
      refine b_M_leaving_100 (br_f (nN0 (by omega)) ?_)
      by_cases c : bt V i = true
      · refine br_nt ((shr_one V (by omega)).mpr c) ⟨v10, ?_⟩
        rw [ci, g5]
        rcases ha i hi with h | ⟨k, hk, h⟩
        · exact br_t (by rw [h]; exact m1_lt) (fin V (by show _ = if _ then _ else _; rw [if_neg (fun z => z.2.1 (by rw [h]; exact m1_lt))]))
        · have ck : (S.1 13 i).toNatClampNeg = k := by rw [h]; exact nCl (by omega)
          have nn : ¬ S.1 13 i < 0 := by rw [h]; exact nN0 (by omega)
          refine br_f nn ⟨v10, ?_⟩
          by_cases c2 : S.1 42 k = 0
          · have f2 := fin (V ||| oneAt (S.1 13 i)) (by show _ = if _ then _ else _; rw [if_pos ⟨c, nn, by rw [ck]; exact c2⟩])
            rw [h] at f2 ⊢
            exact isOn_y (by omega) ((hN k (by omega)).trans c2) (br_f (by decide) ⟨v10, by rw [g5, h]; exact f2⟩)
          · have f2 := fin V (by show _ = if _ then _ else _; rw [if_neg (fun z => c2 (by have := z.2.2; rwa [ck] at this))])
            rw [h]
            exact isOn_n (by omega) (by rw [hN k (by omega)]; exact c2) (br_t rfl f2)
      · exact br_nf (fun z => c ((shr_one V (by omega)).mp z)) (fin V (by show _ = if _ then _ else _; rw [if_neg (fun z => c z.1)]))
    · have q := lv_eq (S := S) x1 x2 (n := nb) (by omega) 0
      rw [show (0 : Int32) ||| lvM S x1 x2 nb = lvM S x1 x2 nb by simp] at q
      rw [q]; exact H
theorem sim_asked (hR : Rel S M) (x1 x2 : Int32) : OKi Rel (M_O_asked hc d x1 x2 S) (M_M_asked_ hm e x1 x2 M) := by
  have hR0 := hR
  obtain ⟨nm, nd, nb, nf, hd, st, hT, hM, hW, hN, hH, hB, hG, hL, hF, hA⟩ := hR
  have hb : nb ≤ 10 := hT.2.2.1.2
  have hb2 : S.1 2 6 = nI nb := hT.2.2.1.1
  have tm := hT.1; have td := hT.2.1
  obtain ⟨⟨mm, md, mb, -⟩, -, -, hbt, -⟩ := hM
  have hbs := hT.2.2.2.2.2.2.2.2.1
  have ha : ∀ b, b < nb → S.1 13 b = -1 ∨ ∃ k, k < b ∧ S.1 13 b = nI k := fun b q => (hbs b q).2.2.2.2.2.2
  have hg : ∀ b, b < nb → M.1 26 b = S.1 7 b ∧ M.1 28 b = S.1 9 b ∧ M.1 33 b = S.1 10 b ∧ M.1 29 b = S.1 11 b ∧ M.1 31 b = S.1 13 b := fun b q => ⟨(hbt b q).1, (hbt b q).2.2.1, (hbt b q).2.2.2.1, (hbt b q).2.2.2.2.1, (hbt b q).2.2.2.2.2.2⟩
  rcases outC x1 tm.1 (by omega) with c | ⟨j, hj, rfl, c1, c2⟩
  · exact ⟨_, S, M, fun K H => e_O_asked (hMan_n c (br_t rfl H)), fun K H => e_M_asked_ (isMan_n tm.1 mm (by omega) c (br_t rfl H)), hR0⟩
  · rcases outC x2 td.1 (by omega) with c | ⟨j2, hj2, rfl, c3, c4⟩
    · exact ⟨_, S, M, fun K H => e_O_asked (hMan_y c1 c2 (br_f (by decide) (hDeed_n c (br_nt rfl H)))), fun K H => e_M_asked_ (isMan_y tm.1 mm (by omega) c1 c2 (br_f (by decide) (isDeed_n td.1 md (by omega) c (br_nt rfl H)))), hR0⟩
    · refine ⟨fo (fun i a => if bt (lvR S (nI j) (nI j2) nb) i = true then a ||| oneAt (S.1 8 i) else a) nb 0, S, M, fun K H => e_O_asked (hMan_y c1 c2 (br_f (by decide) (hDeed_y c3 c4 (br_nf (by decide) (m_leaveBits hb2 hb ha ?_))))), fun K H => e_M_asked_ (isMan_y tm.1 mm (by omega) c1 c2 (br_f (by decide) (isDeed_y td.1 md (by omega) c3 c4 (br_nf (by decide) (m_leaving (S := S) (mb.trans hb2) hb (fun b q => (hN.1 b q).1) hN.2.1 hg ha ?_))))), hR0⟩
      · generalize lvR S (nI j) (nI j2) nb = V at H ⊢
        refine lp_if (B := fun i a => B_O_asked_40 hc d V a (nI i) S K) (fun i => bt V i = true) (fun i a => a ||| oneAt (S.1 8 i)) nb (fun i a hi => ?_) 0 (b_O_asked_40 (br_t (by rw [hb2]; exact nI_le (Nat.le_refl _) (by omega)) H))
        have h0 : ¬ S.1 2 6 ≤ nI i := by rw [hb2]; exact nI_ge hi (by omega)
        refine ⟨fun p h => b_O_asked_40 (br_f h0 (br_f (fun z => by rw [and_one V (by omega), p] at z; cases z) ⟨vIn (by omega) (by omega), b_O_asked_78 ?_⟩)), fun p h => b_O_asked_40 (br_f h0 (br_t ((and_one V (by omega)).mpr (by simpa using p)) (b_O_asked_78 (by rw [nI_1]; exact h))))⟩
        rw [nCl (by omega), nI_1]; exact h
      · generalize lvR S (nI j) (nI j2) nb = V at H ⊢
        refine lp_if (B := fun i a => B_M_asked__31 hm e V a (nI i) M K) (fun i => bt V i = true) (fun i a => a ||| oneAt (S.1 8 i)) nb (fun i a hi => ?_) 0 (b_M_asked__31 (br_t (by rw [mb, hb2]; exact nI_le (Nat.le_refl _) (by omega)) H))
        have h0 : ¬ M.1 0 58 ≤ nI i := by rw [mb, hb2]; exact nI_ge hi (by omega)
        refine ⟨fun p h => b_M_asked__31 (br_f h0 (br_nt ((shr_one V (by omega)).mpr p) ⟨vIn (by omega) (by omega), b_M_asked__64 ?_⟩)), fun p h => b_M_asked__31 (br_f h0 (br_nf (fun z => p ((shr_one V (by omega)).mp z)) (b_M_asked__64 (by rw [nI_1]; exact h))))⟩
        rw [nCl (by omega), nI_1, (hbt i hi).2.1]; exact h
-- what lies there
abbrev lyF (V : Int32) (i : Nat) (a : Nat × (Nat → Int32)) : Nat × (Nat → Int32) := if bt V i = true then (a.1 + 1, upd a.2 a.1 (nI i)) else a
theorem sim_leave (hR : Rel S M) (x1 x2 : Int32) : OKi Rel (M_O_leave hc d x1 x2 S) (M_M_leave hm e x1 x2 M) := by
  obtain ⟨nm, nd, nb, nf, hd, st, hT, hM, hW, hN, hH, hB, hG, hL, hF, hA⟩ := hR
  have hb : nb ≤ 10 := hT.2.2.1.2
  have hb2 : S.1 2 6 = nI nb := hT.2.2.1.1
  have tm := hT.1; have td := hT.2.1
  have hM0 := hM
  obtain ⟨⟨mm, md, mb, -⟩, -, -, hbt, -⟩ := hM
  have hbs := hT.2.2.2.2.2.2.2.2.1
  have ha : ∀ b, b < nb → S.1 13 b = -1 ∨ ∃ k, k < b ∧ S.1 13 b = nI k := fun b q => (hbs b q).2.2.2.2.2.2
  have hg : ∀ b, b < nb → M.1 26 b = S.1 7 b ∧ M.1 28 b = S.1 9 b ∧ M.1 33 b = S.1 10 b ∧ M.1 29 b = S.1 11 b ∧ M.1 31 b = S.1 13 b := fun b q => ⟨(hbt b q).1, (hbt b q).2.2.1, (hbt b q).2.2.2.1, (hbt b q).2.2.2.2.1, (hbt b q).2.2.2.2.2.2⟩
  have fin : ∀ (n : Nat) (f g : Nat → Int32), n ≤ 10 → (∀ j, j < n → g j = f j) → Rel (x_putI (x_putA S 63 f) 0 11 (nI n)) (x_putI (x_putA M 42 g) 0 85 (nI n)) := fun n f g hn h => ⟨nm, nd, nb, nf, hd, st, hT, hM0, hW, hN, hH, hB, hG, ⟨n, hn, rfl, rfl, h⟩, hF, hA⟩
  have f0 : Rel (x_putI S 0 11 0) (x_putI M 0 85 0) := by
    have := fin 0 (S.1 63) (M.1 42) (by omega) (fun j hj => absurd hj (by omega))
    rw [pA_self, pA_self] at this; exact this
  rcases outC x1 tm.1 (by omega) with c | ⟨j, hj, rfl, c1, c2⟩
  · exact ⟨_, _, _, fun K H => e_O_leave (hMan_n c (br_t rfl H)), fun K H => e_M_leave (isMan_n tm.1 mm (by omega) c (br_t rfl H)), f0⟩
  · rcases outC x2 td.1 (by omega) with c | ⟨j2, hj2, rfl, c3, c4⟩
    · exact ⟨_, _, _, fun K H => e_O_leave (hMan_y c1 c2 (br_f (by decide) (hDeed_n c (br_nt rfl H)))), fun K H => e_M_leave (isMan_y tm.1 mm (by omega) c1 c2 (br_f (by decide) (isDeed_n td.1 md (by omega) c (br_nt rfl H)))), f0⟩
    · obtain ⟨V, hV⟩ : ∃ V, V = lvR S (nI j) (nI j2) nb := ⟨_, rfl⟩
      have key := fo_rel (f := lyF V) (g := lyF V) (n := nb) (fun a b => b.1 = a.1 ∧ ∀ i, i < a.1 → b.2 i = a.2 i) (fun i hi a b hab => by
        obtain ⟨h1, h2⟩ := hab
        show (if bt V i = true then (b.1 + 1, upd b.2 b.1 (nI i)) else b).1 = (if bt V i = true then (a.1 + 1, upd a.2 a.1 (nI i)) else a).1 ∧ ∀ q, q < (if bt V i = true then (a.1 + 1, upd a.2 a.1 (nI i)) else a).1 → (if bt V i = true then (b.1 + 1, upd b.2 b.1 (nI i)) else b).2 q = (if bt V i = true then (a.1 + 1, upd a.2 a.1 (nI i)) else a).2 q
        by_cases z : bt V i = true
        · rw [if_pos z, if_pos z, h1]
          refine ⟨rfl, fun q hq => ?_⟩
          show upd b.2 a.1 (nI i) q = upd a.2 a.1 (nI i) q
          by_cases y : q = a.1
          · rw [y, up_s, up_s]
          · rw [up_n _ _ y, up_n _ _ y]; exact h2 q (by have : q < a.1 + 1 := hq; omega)
        · rw [if_neg z, if_neg z]; exact ⟨h1, h2⟩) (a := (0, S.1 63)) (b := (0, M.1 42)) ⟨rfl, fun i hi => absurd hi (Nat.not_lt_zero i)⟩
      have cnt : ∀ (f0 : Nat → Int32) (n : Nat), (fo (lyF V) n (0, f0)).1 ≤ n := by
        intro f0 n
        induction n with
        | zero => exact Nat.le_refl _
        | succ n ih =>
          show (if bt V n = true then ((fo (lyF V) n (0, f0)).1 + 1, upd (fo (lyF V) n (0, f0)).2 (fo (lyF V) n (0, f0)).1 (nI n)) else fo (lyF V) n (0, f0)).1 ≤ n + 1
          split
          · show (fo (lyF V) n (0, f0)).1 + 1 ≤ n + 1
            omega
          · omega
      refine OKi.mk (r := nI (fo (lyF V) nb (0, S.1 63)).1) (S' := x_putI (x_putA S 63 (fo (lyF V) nb (0, S.1 63)).2) 0 11 (nI (fo (lyF V) nb (0, S.1 63)).1)) (M' := x_putI (x_putA M 42 (fo (lyF V) nb (0, M.1 42)).2) 0 85 (nI (fo (lyF V) nb (0, S.1 63)).1)) (fun K H => e_O_leave (hMan_y c1 c2 (br_f (by decide) (hDeed_y c3 c4 (br_nf (by decide) (m_leaveBits (S := x_putI S 0 11 0) hb2 hb ha ?_)))))) (fun K H => e_M_leave (isMan_y tm.1 mm (by omega) c1 c2 (br_f (by decide) (isDeed_y td.1 md (by omega) c3 c4 (br_nf (by decide) (m_leaving (S := S) (M := x_putI M 0 85 0) (mb.trans hb2) hb (fun b q => (hN.1 b q).1) hN.2.1 hg ha ?_)))))) (fin _ _ _ (Nat.le_trans (cnt _ _) hb) key.2)
      · show B_O_leave_42 hc d (lvR S (nI j) (nI j2) nb) 0 (x_putI S 0 11 0) K
        rw [← hV]
        have := lp_upI (B := fun i (a : Nat × (Nat → Int32)) => B_O_leave_42 hc d V (nI i) (x_putI (x_putA S 63 a.2) 0 11 (nI a.1)) K) (fun i a => a.1 ≤ i) (lyF V) nb (fun i a hi h => by
          show (if bt V i = true then (a.1 + 1, upd a.2 a.1 (nI i)) else a).1 ≤ i + 1
          split
          · show a.1 + 1 ≤ i + 1
            omega
          · omega) (fun i a hi hai ih => ?_) (0, S.1 63) (Nat.le_refl _) (fun _ => b_O_leave_42 (br_t (by show S.1 2 6 ≤ _; rw [hb2]; exact nI_le (Nat.le_refl _) (by omega)) H))
        · rw [pA_self] at this; exact this
        · have h0 : ¬ (x_putI (x_putA S 63 a.2) 0 11 (nI a.1)).1 2 6 ≤ nI i := by show ¬ S.1 2 6 ≤ _; rw [hb2]; exact nI_ge hi (by omega)
          refine b_O_leave_42 (br_f h0 ?_)
          by_cases z : bt V i = true
          · have ih : B_O_leave_42 hc d V (nI (i + 1)) (x_putI (x_putA S 63 (lyF V i a).2) 0 11 (nI (lyF V i a).1)) K := ih
            rw [show lyF V i a = (a.1 + 1, upd a.2 a.1 (nI i)) from if_pos z] at ih
            refine br_f (fun y => by rw [and_one V (by omega), z] at y; cases y) (e_O_layDown (br_f (by show ¬ (10 : Int32) ≤ nI a.1; exact nI_ge (b := 10) (by omega) (by omega)) ⟨vIn (by omega) (by omega), b_O_leave_69 ?_⟩))
            show B_O_leave_42 hc d V (nI i + 1) (x_putI (x_putI (x_putI (x_putA S 63 a.2) 0 11 (nI a.1)) 63 (nI a.1).toNatClampNeg (nI i)) 0 11 (nI a.1 + 1)) K
            rw [nCl (by omega), stF S (by decide), nI_1, nI_1]; exact ih
          · have ih : B_O_leave_42 hc d V (nI (i + 1)) (x_putI (x_putA S 63 (lyF V i a).2) 0 11 (nI (lyF V i a).1)) K := ih
            rw [show lyF V i a = a from if_neg z] at ih
            exact br_t ((and_one V (by omega)).mpr (by simpa using z)) (b_O_leave_69 (by rw [nI_1]; exact ih))
      · show B_M_leave_33 hm e (lvR S (nI j) (nI j2) nb) 0 (x_putI M 0 85 0) K
        rw [← hV]
        rw [← key.1] at H
        have := lp_upI (B := fun i (a : Nat × (Nat → Int32)) => B_M_leave_33 hm e V (nI i) (x_putI (x_putA M 42 a.2) 0 85 (nI a.1)) K) (fun i a => a.1 ≤ i) (lyF V) nb (fun i a hi h => by
          show (if bt V i = true then (a.1 + 1, upd a.2 a.1 (nI i)) else a).1 ≤ i + 1
          split
          · show a.1 + 1 ≤ i + 1
            omega
          · omega) (fun i a hi hai ih => ?_) (0, M.1 42) (Nat.le_refl _) (fun _ => b_M_leave_33 (br_t (by show M.1 0 58 ≤ _; rw [mb, hb2]; exact nI_le (Nat.le_refl _) (by omega)) H))
        · rw [pA_self] at this; exact this
        · have h0 : ¬ (x_putI (x_putA M 42 a.2) 0 85 (nI a.1)).1 0 58 ≤ nI i := by show ¬ M.1 0 58 ≤ _; rw [mb, hb2]; exact nI_ge hi (by omega)
          have sh : (V >>> (nI i &&& 31)) &&& 1 = 0 ↔ bt V i = false := by
            constructor
            · intro y
              cases q : bt V i with
              | false => rfl
              | true => rw [(shr_one V (by omega)).mpr q] at y; cases y
            · intro y
              have q : bt ((V >>> (nI i &&& 31)) &&& 1) 0 = bt V i := by
                rw [b_and, b_sshr i (by omega) V (i := 0) (by omega), if_pos (by omega), b_oneL 0 (by omega), Nat.add_zero]; simp
              refine b_ext fun k hk => ?_
              rw [b_0]
              by_cases c : k = 0
              · subst c; rw [q, y]
              · rw [b_and, b_oneL k hk]; simp [c]
          refine b_M_leave_33 (br_f h0 ?_)
          have ih : B_M_leave_33 hm e V (nI (i + 1)) (x_putI (x_putA M 42 (lyF V i a).2) 0 85 (nI (lyF V i a).1)) K := ih
          by_cases z : bt V i = true
          · rw [show lyF V i a = (a.1 + 1, upd a.2 a.1 (nI i)) from if_pos z] at ih
            refine br_nf (fun y => by rw [sh, z] at y; cases y) ⟨vIn (by omega) (by omega), b_M_leave_75 ?_⟩
            show B_M_leave_33 hm e V (nI i + 1) (x_putI (x_putI (x_putI (x_putA M 42 a.2) 0 85 (nI a.1)) 42 (nI a.1).toNatClampNeg (nI i)) 0 85 (nI a.1 + 1)) K
            rw [nCl (by omega), stF M (by decide), nI_1, nI_1]; exact ih
          · rw [show lyF V i a = a from if_neg z] at ih
            exact br_nt (sh.mpr (by simpa using z)) (b_M_leave_75 (by rw [nI_1]; exact ih))
end
