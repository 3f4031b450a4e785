section
theorem lp_all {B : Nat → Prop} {T F : Prop} (P : Nat → Prop) (n : Nat) (hs : ∀ i, i < n → P i → B (i + 1) → B i) (hf : ∀ i, i < n → ¬ P i → F → B i) (he : T → B n) (ht : (∀ i, i < n → P i) → T) (hfl : (¬ ∀ i, i < n → P i) → F) : B 0 := by
  have key : ∀ k i, i + k = n → ((∀ j, i ≤ j → j < n → P j) → T) → ((¬ ∀ j, i ≤ j → j < n → P j) → F) → B i := by
    intro k
    induction k with
    | zero => intro i hi h1 _; rw [show i = n by omega]; exact he (h1 (fun j a b => absurd b (by omega)))
    | succ k ih =>
      intro i hi h1 h2
      by_cases c : P i
      · refine hs i (by omega) c (ih (i + 1) (by omega) (fun h => h1 (fun j a b => ?_)) (fun h => h2 (fun z => h (fun j a b => z j (by omega) b))))
        by_cases e : j = i
        · subst e; exact c
        · exact h j (by omega) b
      · exact hf i (by omega) c (h2 (fun z => c (z i (Nat.le_refl _) (by omega))))
  exact key n 0 (by omega) (fun h => ht (fun i hi => h i (Nat.zero_le _) hi)) (fun h => hfl (fun z => h (fun j _ b => z j b)))
-- counting and greatest numbers
def cN (p : Nat → Prop) [DecidablePred p] (n : Nat) : Nat := fo (fun i a => if p i then a + 1 else a) n 0
theorem cN_s (p : Nat → Prop) [DecidablePred p] (n : Nat) : cN p (n + 1) = if p n then cN p n + 1 else cN p n := rfl
theorem cN_le (p : Nat → Prop) [DecidablePred p] (n : Nat) : cN p n ≤ n := by
  induction n with
  | zero => exact Nat.le_refl _
  | succ n ih => rw [cN_s]; split <;> omega
theorem cN_pos {p : Nat → Prop} [DecidablePred p] {n : Nat} (h : 0 < cN p n) : ∃ i, i < n ∧ p i := by
  induction n with
  | zero => exact absurd h (Nat.lt_irrefl 0)
  | succ n ih =>
    rw [cN_s] at h
    by_cases c : p n
    · exact ⟨n, by omega, c⟩
    · rw [if_neg c] at h
      obtain ⟨i, h1, h2⟩ := ih h
      exact ⟨i, by omega, h2⟩
theorem cN_congr {p q : Nat → Prop} [DecidablePred p] [DecidablePred q] {n : Nat} (h : ∀ i, i < n → (p i ↔ q i)) : cN p n = cN q n := by
  induction n with
  | zero => rfl
  | succ n ih =>
    rw [cN_s, cN_s, ih (fun i hi => h i (by omega))]
    by_cases c : p n
    · rw [if_pos c, if_pos ((h n (by omega)).mp c)]
    · rw [if_neg c, if_neg (fun z => c ((h n (by omega)).mpr z))]
def mxN (f : Nat → Nat) (n : Nat) : Nat := fo (fun i a => max a (f i)) n 0
theorem mxN_s (f : Nat → Nat) (n : Nat) : mxN f (n + 1) = max (mxN f n) (f n) := rfl
theorem mxN_ge {f : Nat → Nat} {n i : Nat} (h : i < n) : f i ≤ mxN f n := by
  induction n with
  | zero => exact absurd h (by omega)
  | succ n ih =>
    rw [mxN_s]
    by_cases c : i = n
    · subst c; exact Nat.le_max_right _ _
    · exact Nat.le_trans (ih (by omega)) (Nat.le_max_left _ _)
theorem mxN_le {f : Nat → Nat} {n b : Nat} (h : ∀ i, i < n → f i ≤ b) : mxN f n ≤ b := by
  induction n with
  | zero => exact Nat.zero_le _
  | succ n ih => rw [mxN_s]; exact Nat.max_le.mpr ⟨ih (fun i hi => h i (by omega)), h n (by omega)⟩
variable {hc hm : xH} {d e : Nat} {S M : xSt}
abbrev tr (S : xSt) (m : Nat) (w : Int32) : Int32 := if w = 0 then S.1 3 m else if w = 1 then S.1 4 m else S.1 5 m
abbrev tgC (S : xSt) (k : Int32) (j : Nat) : Prop := ¬ k < S.1 61 j ∧ (S.1 62 j = -1 ∨ ¬ S.1 62 j ≤ k)
abbrev tgG (S : xSt) (m : Nat) (k : Int32) (j : Nat) : Prop := tgC S k j → bi (tr S m (S.1 58 j) = S.1 59 j) = S.1 60 j
theorem m_trait {m : Nat} (h : m < 6) {w : Int32} {K : Int32 → xSt → Prop} (H : K (tr S m w) S) : M_Rg_traitOf_2 hc d (nI m) w S K := by
  have v : vp_in (nI m) 6 := vIn h (by omega)
  exact m_Rg_traitOf_2 (fun _ _ => v) (fun _ _ => v) (fun _ => v) (by rw [nCl (by omega)]; exact H)
theorem m_mark {nm m : Nat} (hn : nm ≤ 6) (h : m < nm) (hM : ∀ m, m < nm → M.1 15 m = S.1 3 m ∧ M.1 16 m = S.1 4 m ∧ M.1 17 m = S.1 5 m) {w : Int32} {K : Int32 → xSt → Prop} (H : K (tr S m w) M) : M_M_markOf hm e (nI m) w M K := by
  have v : vp_in (nI m) 6 := vIn (by omega) (by omega)
  obtain ⟨a, b, c⟩ := hM m h
  exact m_M_markOf (fun _ _ => v) (fun _ _ => v) (fun _ => v) (by rw [nCl (by omega), a, b, c]; exact H)
theorem m_fits {n : Nat} (hn : S.1 57 6 = nI n) (hb : n ≤ 30) {m : Nat} (hm6 : m < 6) {k : Int32} {K : Int32 → xSt → Prop} (H : K (bi (∀ j, j < n → tgG S m k j)) S) : M_Tg_fits hc d (nI m) k S K := by
  refine e_Tg_fits ?_
  refine lp_all (B := fun i => B_Tg_fits_2 hc d (nI m) k (nI i) S K) (T := K 1 S) (F := K 0 S) (fun j => tgG S m k j) n (fun i hi p h => ?_) (fun i hi p h => ?_) (fun h => b_Tg_fits_2 (br_t (by rw [hn]; exact nI_le (Nat.le_refl _) (by omega)) h)) (fun p => by rwa [bi_pos p] at H) (fun p => by rwa [bi_neg p] at H)
  all_goals
    have h0 : ¬ S.1 57 6 ≤ nI i := by rw [hn]; exact nI_ge hi (by omega)
    have ci : (nI i).toNatClampNeg = i := nCl (by omega)
    have v : vp_in (nI i) 30 := vIn (by omega) (by omega)
  · have no : B_Tg_fits_44 hc d (nI m) k (nI i) S K := b_Tg_fits_44 (b_Tg_fits_45 (br_t rfl (b_Tg_fits_91 (by rw [nI_1]; exact h))))
    have yes : tgC S k i → B_Tg_fits_40 hc d (nI m) k (nI i) S K := by
      intro c
      have q := p c
      refine b_Tg_fits_40 (b_Tg_fits_45 (br_f (by decide) ⟨v, m_trait hm6 ⟨v, ?_⟩⟩))
      rw [ci]
      by_cases z : tr S m (S.1 58 i) = S.1 59 i
      · rw [bi_pos z] at q
        exact br_nt z (b_Tg_fits_80 ⟨v, by rw [ci]; exact br_t q (b_Tg_fits_91 (by rw [nI_1]; exact h))⟩)
      · rw [bi_neg z] at q
        exact br_nf z (b_Tg_fits_80 ⟨v, by rw [ci]; exact br_t q (b_Tg_fits_91 (by rw [nI_1]; exact h))⟩)
    refine b_Tg_fits_2 (br_f h0 ⟨v, ?_⟩)
    rw [ci]
    by_cases c1 : k < S.1 61 i
    · exact br_t c1 no
    · refine br_f c1 ⟨v, ?_⟩
      by_cases c2 : S.1 62 i = -1
      · exact br_t c2 (yes ⟨c1, Or.inl c2⟩)
      · refine br_f c2 ⟨v, ?_⟩
        by_cases c3 : S.1 62 i ≤ k
        · exact br_t c3 no
        · exact br_f c3 (yes ⟨c1, Or.inr c3⟩)
  · have c : tgC S k i := Classical.byContradiction fun z => p (fun y => absurd y z)
    have q : ¬ bi (tr S m (S.1 58 i) = S.1 59 i) = S.1 60 i := fun z => p (fun _ => z)
    have yes : B_Tg_fits_40 hc d (nI m) k (nI i) S K := by
      refine b_Tg_fits_40 (b_Tg_fits_45 (br_f (by decide) ⟨v, m_trait hm6 ⟨v, ?_⟩⟩))
      rw [ci]
      by_cases z : tr S m (S.1 58 i) = S.1 59 i
      · rw [bi_pos z] at q
        exact br_nt z (b_Tg_fits_80 ⟨v, by rw [ci]; exact br_f q h⟩)
      · rw [bi_neg z] at q
        exact br_nf z (b_Tg_fits_80 ⟨v, by rw [ci]; exact br_f q h⟩)
    refine b_Tg_fits_2 (br_f h0 ⟨v, ?_⟩)
    rw [ci]
    refine br_f c.1 ⟨v, ?_⟩
    by_cases c2 : S.1 62 i = -1
    · exact br_t c2 yes
    · exact br_f c2 ⟨v, br_f (c.2.resolve_left c2) yes⟩
abbrev suR (S : xSt) (n : Nat) (k : Int32) (nm : Nat) : Int32 := fo (fun m a => if (∀ j, j < n → tgG S m k j) then a ||| oneAt (nI m) else a) nm 0
theorem m_suspects {nm n : Nat} (ht : S.1 2 0 = nI nm) (h6 : nm ≤ 6) (hn : S.1 57 6 = nI n) (hb : n ≤ 30) {k : Int32} {K : Int32 → xSt → Prop} (H : K (suR S n k nm) S) : M_Tg_suspects hc d k S K := by
  refine e_Tg_suspects (lp_if (B := fun i a => B_Tg_suspects_4 hc d k a (nI i) S K) (fun m => ∀ j, j < n → tgG S m k j) (fun m a => a ||| oneAt (nI m)) nm (fun i a hi => ?_) 0 (b_Tg_suspects_4 (br_t (by rw [ht]; exact nI_le (Nat.le_refl _) (by omega)) H)))
  have h0 : ¬ S.1 2 0 ≤ nI i := by rw [ht]; exact nI_ge hi (by omega)
  refine ⟨fun p h => b_Tg_suspects_4 (br_f h0 (m_fits hn hb (by omega) ?_)), fun p h => b_Tg_suspects_4 (br_f h0 (m_fits hn hb (by omega) ?_))⟩
  · rw [bi_pos p]; exact br_f (by decide) (b_Tg_suspects_30 (by rw [nI_1]; exact h))
  · rw [bi_neg p]; exact br_t rfl (b_Tg_suspects_30 (by rw [nI_1]; exact h))
theorem m_swears {nm n : Nat} (h6 : nm ≤ 6) (hMm : ∀ m, m < nm → M.1 15 m = S.1 3 m ∧ M.1 16 m = S.1 4 m ∧ M.1 17 m = S.1 5 m) (hn : M.1 0 93 = nI n) (hb : n ≤ 30)
    (hg : ∀ j, j < n → M.1 45 j = S.1 58 j ∧ M.1 46 j = S.1 59 j ∧ M.1 49 j = S.1 60 j ∧ M.1 47 j = S.1 61 j ∧ M.1 48 j = S.1 62 j ∧ (S.1 62 j = -1 ∨ ∃ k, k ≤ 100000 ∧ S.1 62 j = nI k)) {m : Nat} (hmm : m < nm) {k : Int32} {K : Int32 → xSt → Prop} (H : K (bi (∀ j, j < n → tgG S m k j)) M) : M_M_swears hm e (nI m) k M K := by
  refine e_M_swears ?_
  refine lp_all (B := fun i => B_M_swears_5 hm e (nI m) k 1 (nI i) M K) (T := K 1 M) (F := K 0 M) (fun j => tgG S m k j) n (fun i hi p h => ?_) (fun i hi p h => ?_) (fun h => b_M_swears_5 (br_t (by rw [hn]; exact nI_le (Nat.le_refl _) (by omega)) ⟨zb1, h⟩)) (fun p => by rwa [bi_pos p] at H) (fun p => by rwa [bi_neg p] at H)
  all_goals
    have h0 : ¬ M.1 0 93 ≤ nI i := by rw [hn]; exact nI_ge hi (by omega)
    have ci : (nI i).toNatClampNeg = i := nCl (by omega)
    have v : vp_in (nI i) 30 := vIn (by omega) (by omega)
    obtain ⟨g1, g2, g3, g4, g5, g6⟩ := hg i hi
    have un : (M.1 48 i < 0) ↔ S.1 62 i = -1 := by
      rw [g5]
      rcases g6 with q | ⟨w, hw, q⟩
      · rw [q]; exact ⟨fun _ => rfl, fun _ => m1_lt⟩
      · rw [q]; exact ⟨fun z => absurd z (nN0 (by omega)), fun z => absurd z (nM1 (by omega))⟩
  · have no : B_M_swears_93 hm e (nI m) k 1 (nI i) M K := b_M_swears_93 (by rw [nI_1]; exact h)
    have yes : tgC S k i → B_M_swears_50 hm e (nI m) k (nI i) M K := by
      intro c
      have q := p c
      refine b_M_swears_50 ⟨v, ?_⟩
      rw [ci, g1]
      refine m_mark (S := S) h6 hmm hMm ⟨v, ?_⟩
      rw [g2]
      by_cases z : tr S m (S.1 58 i) = S.1 59 i
      · rw [bi_pos z] at q
        exact br_nt z (b_M_swears_77 ⟨v, by rw [ci, g3]; exact br_nt q (b_M_swears_92 no)⟩)
      · rw [bi_neg z] at q
        exact br_nf z (b_M_swears_77 ⟨v, by rw [ci, g3]; exact br_nt q (b_M_swears_92 no)⟩)
    refine b_M_swears_5 (br_f h0 (br_f (by decide) ⟨v, ?_⟩))
    rw [ci, g4]
    by_cases c1 : k < S.1 61 i
    · exact br_t c1 no
    · refine br_f c1 ⟨v, ?_⟩
      by_cases c2 : S.1 62 i = -1
      · exact br_t (un.mpr c2) (yes ⟨c1, Or.inl c2⟩)
      · refine br_f (fun z => c2 (un.mp z)) ⟨v, ?_⟩
        rw [g5]
        by_cases c3 : S.1 62 i ≤ k
        · exact br_t c3 no
        · exact br_f c3 (yes ⟨c1, Or.inr c3⟩)
  · have c : tgC S k i := Classical.byContradiction fun z => p (fun y => absurd y z)
    have q : ¬ bi (tr S m (S.1 58 i) = S.1 59 i) = S.1 60 i := fun z => p (fun _ => z)
    have out : B_M_swears_93 hm e (nI m) k 0 (nI i) M K := by
      refine b_M_swears_93 (b_M_swears_5 ?_)
      rw [nI_1]
      exact ⟨fun _ => ⟨zb0, h⟩, fun _ => br_t rfl ⟨zb0, h⟩⟩
    have yes : B_M_swears_50 hm e (nI m) k (nI i) M K := by
      refine b_M_swears_50 ⟨v, ?_⟩
      rw [ci, g1]
      refine m_mark (S := S) h6 hmm hMm ⟨v, ?_⟩
      rw [g2]
      by_cases z : tr S m (S.1 58 i) = S.1 59 i
      · rw [bi_pos z] at q
        exact br_nt z (b_M_swears_77 ⟨v, by rw [ci, g3]; exact br_nf q (b_M_swears_92 out)⟩)
      · rw [bi_neg z] at q
        exact br_nf z (b_M_swears_77 ⟨v, by rw [ci, g3]; exact br_nf q (b_M_swears_92 out)⟩)
    refine b_M_swears_5 (br_f h0 (br_f (by decide) ⟨v, ?_⟩))
    rw [ci, g4]
    refine br_f c.1 ⟨v, ?_⟩
    by_cases c2 : S.1 62 i = -1
    · exact br_t (un.mpr c2) yes
    · refine br_f (fun z => c2 (un.mp z)) ⟨v, ?_⟩
      rw [g5]; exact br_f (c.2.resolve_left c2) yes
theorem m_M_swore {nm n : Nat} (ht : M.1 0 56 = nI nm) (h6 : nm ≤ 6) (hMm : ∀ m, m < nm → M.1 15 m = S.1 3 m ∧ M.1 16 m = S.1 4 m ∧ M.1 17 m = S.1 5 m) (hn : M.1 0 93 = nI n) (hb : n ≤ 30)
    (hg : ∀ j, j < n → M.1 45 j = S.1 58 j ∧ M.1 46 j = S.1 59 j ∧ M.1 49 j = S.1 60 j ∧ M.1 47 j = S.1 61 j ∧ M.1 48 j = S.1 62 j ∧ (S.1 62 j = -1 ∨ ∃ k, k ≤ 100000 ∧ S.1 62 j = nI k)) {k : Int32} {K : Int32 → xSt → Prop} (H : K (suR S n k nm) M) : M_M_swore hm e k M K := by
  refine e_M_swore (lp_if (B := fun i a => B_M_swore_4 hm e k a (nI i) M K) (fun m => ∀ j, j < n → tgG S m k j) (fun m a => a ||| oneAt (nI m)) nm (fun i a hi => ?_) 0 (b_M_swore_4 (br_t (by rw [ht]; exact nI_le (Nat.le_refl _) (by omega)) H)))
  have h0 : ¬ M.1 0 56 ≤ nI i := by rw [ht]; exact nI_ge hi (by omega)
  refine ⟨fun p h => b_M_swore_4 (br_f h0 (m_swears (S := S) h6 hMm hn hb hg hi ?_)), fun p h => b_M_swore_4 (br_f h0 (m_swears (S := S) h6 hMm hn hb hg hi ?_))⟩
  · rw [bi_pos p]; exact truth1 (by rw [nI_1]; exact h)
  · rw [bi_neg p]; exact truth0 (by rw [or_z, nI_1]; exact h)
theorem sim_swore (hR : Rel S M) (x1 : Int32) : OKi Rel (M_O_swore hc d x1 S) (M_M_swore hm e x1 M) := by
  have hR0 := hR
  obtain ⟨nm, nd, nb, nf, hd, st, hT, hM, hW, hN, hH, hB, ⟨n, t, h1, h2, e1, e2, e3, e4, ht⟩, hL, hF, hA⟩ := hR
  obtain ⟨⟨mm, -⟩, hmen, -⟩ := hM
  exact ⟨suR S n x1 nm, S, M, fun K H => e_O_swore (m_suspects hT.1.1 hT.1.2 e1 h1 H), fun K H => m_M_swore (S := S) (mm.trans hT.1.1) hT.1.2 hmen e3 h1 (fun j hj => by
    obtain ⟨a1, a2, a3, a4, a5, a6, -⟩ := ht j hj
    exact ⟨a1, a2, a3, a4, a5, a6⟩) H, hR0⟩

theorem and_one (x : Int32) {m : Nat} (h : m < 32) : (x &&& oneAt (nI m)) = 0 ↔ bt x m = false := by
  constructor
  · intro z
    have q : bt (x &&& oneAt (nI m)) m = bt 0 m := by rw [z]
    rw [b_and, b_one m h m h, b_0] at q
    simpa using q
  · intro z
    refine b_ext fun i hi => ?_
    rw [b_and, b_one m h i hi, b_0]
    by_cases c : i = m
    · subst c; rw [z]; rfl
    · simp [c]
theorem b_oneL : ∀ i, i < 32 → bt (1 : Int32) i = decide (i = 0) := by decide +kernel
theorem shr_one (x : Int32) {m : Nat} (h : m < 32) : ((x >>> (nI m &&& 31)) &&& 1) = 1 ↔ bt x m = true := by
  have q : bt ((x >>> (nI m &&& 31)) &&& 1) 0 = bt x m := by
    rw [b_and, b_sshr m h x (i := 0) (by omega), if_pos (by omega), b_oneL 0 (by omega), Nat.add_zero]; simp
  constructor
  · intro z
    rw [z, b_oneL 0 (by omega)] at q
    rw [← q]; rfl
  · intro z
    refine b_ext fun i hi => ?_
    rw [b_oneL i hi]
    by_cases c : i = 0
    · subst c; rw [q, z]; rfl
    · rw [b_and, b_oneL i hi]; simp [c]
theorem shr_one' (x : Int32) {m : Nat} (h : m < 32) : ¬ ((x >>> (nI m &&& 31)) &&& 1) = 1 ↔ bt x m = false := by
  rw [shr_one x h]; simp
theorem nMax {a b : Nat} (ha : a < 2147483648) (hb : b < 2147483648) : (if nI a < nI b then nI b else nI a) = nI (max a b) := by
  by_cases c : a < b
  · rw [if_pos ((nLt ha hb).mpr c), Nat.max_eq_right (by omega)]
  · rw [if_neg (fun z => c ((nLt ha hb).mp z)), Nat.max_eq_left (by omega)]
-- how many are alike
abbrev lkF (S : xSt) (x w : Int32) (nm m : Nat) : Nat := cN (fun o => (bt x m = true ∧ bt x o = true) ∧ tr S m w = tr S o w) nm
theorem m_leftAtMost {nm : Nat} (ht : S.1 2 0 = nI nm) (h6 : nm ≤ 6) {x w : Int32} {K : Int32 → xSt → Prop} (H : K (nI (mxN (lkF S x w nm) nm)) S) : M_Tg_leftAtMost hc d x w S K := by
  refine e_Tg_leftAtMost ?_
  have := lp_st (B := fun i _ => B_Tg_leftAtMost_5 hc d x w (nI (mxN (lkF S x w nm) i)) (nI i) S K) (fun _ => S) nm (fun i hi ih => ?_) (b_Tg_leftAtMost_5 (br_t (by rw [ht]; exact nI_le (Nat.le_refl _) (by omega)) H))
  · exact this
  · have h0 : ¬ S.1 2 0 ≤ nI i := by rw [ht]; exact nI_ge hi (by omega)
    refine b_Tg_leftAtMost_5 (br_f h0 ?_)
    have hm1 : mxN (lkF S x w nm) i ≤ 6 := mxN_le (fun j _ => Nat.le_trans (cN_le _ _) h6)
    refine lp_st (B := fun o _ => B_Tg_leftAtMost_23 hc d x w (nI (mxN (lkF S x w nm) i)) (nI i) (nI (cN (fun o => (bt x i = true ∧ bt x o = true) ∧ tr S i w = tr S o w) o)) (nI o) S K) (fun _ => S) nm (fun o ho ih2 => ?_) (b_Tg_leftAtMost_23 (br_t (by rw [ht]; exact nI_le (Nat.le_refl _) (by omega)) ?_))
    · have g0 : ¬ S.1 2 0 ≤ nI o := by rw [ht]; exact nI_ge ho (by omega)
      have no : ¬ ((bt x i = true ∧ bt x o = true) ∧ tr S i w = tr S o w) → B_Tg_leftAtMost_91 hc d x w (nI (mxN (lkF S x w nm) i)) (nI i) (nI (cN (fun o => (bt x i = true ∧ bt x o = true) ∧ tr S i w = tr S o w) o)) (nI o) S K := by
        intro z
        rw [cN_s, if_neg z] at ih2
        exact b_Tg_leftAtMost_91 (by rw [nI_1]; exact ih2)
      refine b_Tg_leftAtMost_23 (br_f g0 ?_)
      by_cases c1 : bt x i = true
      · refine br_f (fun z => by rw [and_one x (by omega), c1] at z; cases z) ?_
        by_cases c2 : bt x o = true
        · refine br_f (fun z => by rw [and_one x (by omega), c2] at z; cases z) (b_Tg_leftAtMost_58 (br_f (by decide) (m_trait (by omega) (m_trait (by omega) ?_))))
          by_cases c3 : tr S i w = tr S o w
          · refine br_nt c3 (b_Tg_leftAtMost_91 ?_)
            rw [cN_s, if_pos ⟨⟨c1, c2⟩, c3⟩] at ih2
            rw [nI_1, nI_1]; exact ih2
          · exact br_nf c3 (no (fun z => c3 z.2))
        · exact br_t ((and_one x (by omega)).mpr (by simpa using c2)) (b_Tg_leftAtMost_57 (b_Tg_leftAtMost_58 (br_t rfl (no (fun z => c2 z.1.2)))))
      · exact br_t ((and_one x (by omega)).mpr (by simpa using c1)) (b_Tg_leftAtMost_57 (b_Tg_leftAtMost_58 (br_t rfl (no (fun z => c1 z.1.1)))))
    · have hm2 : cN (fun o => (bt x i = true ∧ bt x o = true) ∧ tr S i w = tr S o w) nm ≤ 6 := Nat.le_trans (cN_le _ _) h6
      rw [nMax (by omega) (by omega), nI_1, ← mxN_s (lkF S x w nm) i]
      exact ih
abbrev lkV (S : xSt) (x w : Int32) (nm v : Nat) : Nat := cN (fun o => bt x o = true ∧ tr S o w = nI v) nm
theorem m_mostLeft {nm : Nat} (ht : M.1 0 56 = nI nm) (h6 : nm ≤ 6) (hMm : ∀ m, m < nm → M.1 15 m = S.1 3 m ∧ M.1 16 m = S.1 4 m ∧ M.1 17 m = S.1 5 m) {x w : Int32} {K : Int32 → xSt → Prop} (H : K (nI (mxN (lkV S x w nm) 10)) M) : M_M_mostLeft hm e x w M K := by
  refine e_M_mostLeft ?_
  have := lp_st (B := fun i _ => B_M_mostLeft_5 hm e x w (nI (mxN (lkV S x w nm) i)) (nI i) M K) (fun _ => M) 10 (fun i hi ih => ?_) (b_M_mostLeft_5 (br_t (by decide) H))
  · exact this
  · have h0 : ¬ (9 : Int32) < nI i := nI_nlt (b := i) (a := 9) (by omega) (by omega)
    refine b_M_mostLeft_5 (br_f h0 ?_)
    have hm1 : mxN (lkV S x w nm) i ≤ 6 := mxN_le (fun j _ => Nat.le_trans (cN_le _ _) h6)
    refine lp_st (B := fun o _ => B_M_mostLeft_18 hm e x w (nI (mxN (lkV S x w nm) i)) (nI i) (nI (cN (fun o => bt x o = true ∧ tr S o w = nI i) o)) (nI o) M K) (fun _ => M) nm (fun o ho ih2 => ?_) (b_M_mostLeft_18 (br_t (by rw [ht]; exact nI_le (Nat.le_refl _) (by omega)) ?_))
    · have g0 : ¬ M.1 0 56 ≤ nI o := by rw [ht]; exact nI_ge ho (by omega)
      have no : ¬ (bt x o = true ∧ tr S o w = nI i) → B_M_mostLeft_55 hm e x w (nI (mxN (lkV S x w nm) i)) (nI i) (nI o) (nI (cN (fun o => bt x o = true ∧ tr S o w = nI i) o)) M K := by
        intro z
        rw [cN_s, if_neg z] at ih2
        exact b_M_mostLeft_55 (b_M_mostLeft_56 (truth0 (by rw [nI_1, Int32.add_zero]; exact ih2)))
      refine b_M_mostLeft_18 (br_f g0 ?_)
      by_cases c1 : bt x o = true
      · refine br_nt ((shr_one x (by omega)).mpr c1) (m_mark (S := S) h6 ho hMm ?_)
        by_cases c2 : tr S o w = nI i
        · refine br_nt c2 (b_M_mostLeft_56 (truth1 ?_))
          rw [cN_s, if_pos ⟨c1, c2⟩] at ih2
          rw [nI_1, nI_1]; exact ih2
        · exact br_nf c2 (no (fun z => c2 z.2))
      · exact br_nf (fun z => c1 ((shr_one x (by omega)).mp z)) (no (fun z => c1 z.1))
    · have hm2 : cN (fun o => bt x o = true ∧ tr S o w = nI i) nm ≤ 6 := Nat.le_trans (cN_le _ _) h6
      have e1 : mxN (lkV S x w nm) (i + 1) = max (mxN (lkV S x w nm) i) (cN (fun o => bt x o = true ∧ tr S o w = nI i) nm) := rfl
      by_cases c : cN (fun o => bt x o = true ∧ tr S o w = nI i) nm ≤ mxN (lkV S x w nm) i
      · refine br_t ((nLe (by omega) (by omega)).mpr c) (b_M_mostLeft_80 ?_)
        rw [nI_1]
        rw [e1, Nat.max_eq_left c] at ih; exact ih
      · refine br_f (fun z => c ((nLe (by omega) (by omega)).mp z)) (b_M_mostLeft_80 ?_)
        rw [nI_1]
        rw [e1, Nat.max_eq_right (by omega)] at ih; exact ih
theorem most_eq {nm : Nat} (x w : Int32) (hv : ∀ m, m < nm → ∃ v, v < 10 ∧ tr S m w = nI v) : mxN (lkF S x w nm) nm = mxN (lkV S x w nm) 10 := by
  have key : ∀ m v, tr S m w = nI v → bt x m = true → lkF S x w nm m = lkV S x w nm v := by
    intro m v h1 h2
    refine cN_congr fun o _ => ?_
    rw [h1]
    exact ⟨fun z => ⟨z.1.2, z.2.symm⟩, fun z => ⟨⟨h2, z.1⟩, z.2.symm⟩⟩
  apply Nat.le_antisymm
  · refine mxN_le fun m hm => ?_
    by_cases c : bt x m = true
    · obtain ⟨v, h1, h2⟩ := hv m hm
      rw [key m v h2 c]; exact mxN_ge h1
    · have : lkF S x w nm m = 0 := by
        rcases Nat.eq_zero_or_pos (lkF S x w nm m) with q | q
        · exact q
        · obtain ⟨o, _, z⟩ := cN_pos q
          exact absurd z.1.1 c
      rw [this]; exact Nat.zero_le _
  · refine mxN_le fun v hv10 => ?_
    rcases Nat.eq_zero_or_pos (lkV S x w nm v) with q | q
    · rw [q]; exact Nat.zero_le _
    · obtain ⟨o, ho, z⟩ := cN_pos q
      rw [← key o v z.2 z.1]; exact mxN_ge ho
theorem sim_ask (hR : Rel S M) (x1 x2 : Int32) : OKi Rel (M_O_ask hc d x1 x2 S) (M_M_ask hm e x1 x2 M) := by
  have hR0 := hR
  obtain ⟨nm, nd, nb, nf, hd, st, hT, hM, hW, hN, hH, hB, ⟨n, t, h1, h2, e1, e2, e3, e4, ht⟩, hL, hF, hA⟩ := hR
  obtain ⟨⟨mm, -⟩, hmen, -⟩ := hM
  have hg : ∀ j, j < n → M.1 45 j = S.1 58 j ∧ M.1 46 j = S.1 59 j ∧ M.1 49 j = S.1 60 j ∧ M.1 47 j = S.1 61 j ∧ M.1 48 j = S.1 62 j ∧ (S.1 62 j = -1 ∨ ∃ k, k ≤ 100000 ∧ S.1 62 j = nI k) := fun j hj => by
    obtain ⟨a1, a2, a3, a4, a5, a6, -⟩ := ht j hj
    exact ⟨a1, a2, a3, a4, a5, a6⟩
  have t6 := hT.1.2
  have tm := hT.1.1
  have runC : ∀ (d : Nat) (K : Int32 → xSt → Prop), K (suR S n x2 nm) S → M_Tg_suspects hc d x2 S K := fun d K H => m_suspects tm t6 e1 h1 H
  have runM : ∀ (e : Nat) (K : Int32 → xSt → Prop), K (suR S n x2 nm) M → M_M_swore hm e x2 M K := fun e K H => m_M_swore (S := S) (mm.trans tm) t6 hmen e3 h1 hg H
  generalize suR S n x2 nm = x at runC runM
  have g : ∀ w, mxN (lkF S x w nm) nm = mxN (lkV S x w nm) 10 := fun w => most_eq x w (fun m hm => by
    obtain ⟨⟨k1, a1, a2⟩, ⟨k2, b0, b1, b2⟩, ⟨k3, c1, c2⟩⟩ := hT.2.2.2.2.2.2.1 m hm
    show ∃ v, v < 10 ∧ (if w = 0 then S.1 3 m else if w = 1 then S.1 4 m else S.1 5 m) = nI v
    by_cases z : w = 0
    · rw [if_pos z]; exact ⟨k1, by omega, a2⟩
    · rw [if_neg z]
      by_cases y : w = 1
      · rw [if_pos y]; exact ⟨k2, by omega, b2⟩
      · rw [if_neg y]; exact ⟨k3, by omega, c2⟩)
  have lC : ∀ (d : Nat) (w : Int32) (K : Int32 → xSt → Prop), K (nI (mxN (lkF S x w nm) nm)) S → M_Tg_leftAtMost hc d x w S K := fun d w K H => m_leftAtMost tm t6 H
  have lM : ∀ (e : Nat) (w : Int32) (K : Int32 → xSt → Prop), K (nI (mxN (lkF S x w nm) nm)) M → M_M_mostLeft hm e x w M K := fun e w K H => m_mostLeft (S := S) (mm.trans tm) t6 hmen (by rw [← g w]; exact H)
  generalize hL2 : (fun w => nI (mxN (lkF S x w nm) nm)) = L2 at *
  have lC : ∀ (d : Nat) (w : Int32) (K : Int32 → xSt → Prop), K (L2 w) S → M_Tg_leftAtMost hc d x w S K := fun d w K H => lC d w K (by rw [← hL2] at H; exact H)
  have lM : ∀ (e : Nat) (w : Int32) (K : Int32 → xSt → Prop), K (L2 w) M → M_M_mostLeft hm e x w M K := fun e w K H => lM e w K (by rw [← hL2] at H; exact H)
  by_cases c0 : x = 0
  · refine ⟨-1, S, M, fun K H => e_O_ask (runC _ _ (br_t c0 H)), fun K H => e_M_ask (runM _ _ ?_), hR0⟩
    by_cases c1 : ¬ x1 < 0 ∧ ¬ (1 : Int32) < x1
    · exact isIn_y c1 (br_f (by decide) (br_nt c0 H))
    · exact isIn_n c1 (br_t rfl H)
  · by_cases c1 : x1 < 0
    · exact ⟨-1, S, M, fun K H => e_O_ask (runC _ _ (br_f c0 (br_t c1 H))), fun K H => e_M_ask (runM _ _ (isIn_n (fun z => z.1 c1) (br_t rfl H))), hR0⟩
    · by_cases c2 : x1 ≤ 1
      · obtain ⟨b1, hb1⟩ : ∃ b1 : Int32, b1 = if L2 0 ≤ L2 1 then 0 else 1 := ⟨_, rfl⟩
        obtain ⟨b2, hb2⟩ : ∃ b2 : Int32, b2 = if L2 b1 ≤ L2 2 then b1 else 2 := ⟨_, rfl⟩
        refine ⟨if x1 = 0 then b2 else L2 b2, S, M, fun K H => e_O_ask (runC _ _ (br_f c0 (br_f c1 (br_t c2 ?_)))), fun K H => e_M_ask (runM _ _ (isIn_y ⟨c1, fun z => (nle_lt.mpr z) c2⟩ (br_f (by decide) (br_nf c0 ?_)))), hR0⟩
        · have f3 : B_O_ask_30 hc d x1 x b2 3 S K := by
            refine b_O_ask_30 (br_t (by decide) ?_)
            by_cases z : x1 = 0
            · rw [if_pos z] at H; exact br_nt z H
            · rw [if_neg z] at H; exact br_nf z (lC _ _ _ H)
          have f2 : B_O_ask_30 hc d x1 x b1 2 S K := by
            refine b_O_ask_30 (br_f (by decide) (lC _ _ _ (lC _ _ _ ?_)))
            by_cases z : L2 b1 ≤ L2 2
            · rw [if_pos z] at hb2; rw [hb2] at f3; exact br_t z (b_O_ask_63 f3)
            · rw [if_neg z] at hb2; rw [hb2] at f3; exact br_f z (b_O_ask_63 f3)
          refine b_O_ask_30 (br_f (by decide) (lC _ _ _ (lC _ _ _ ?_)))
          by_cases z : L2 0 ≤ L2 1
          · rw [if_pos z] at hb1; rw [hb1] at f2; exact br_t z (b_O_ask_63 f2)
          · rw [if_neg z] at hb1; rw [hb1] at f2; exact br_f z (b_O_ask_63 f2)
        · have f3 : B_M_ask_27 hm e x1 x b2 3 M K := by
            refine b_M_ask_27 (br_t (by decide) ?_)
            by_cases z : x1 = 0
            · rw [if_pos z] at H; exact br_nt z H
            · rw [if_neg z] at H; exact br_nf z (lM _ _ _ H)
          have f2 : B_M_ask_27 hm e x1 x b1 2 M K := by
            refine b_M_ask_27 (br_f (by decide) (lM _ _ _ (lM _ _ _ ?_)))
            by_cases z : L2 b1 ≤ L2 2
            · rw [if_pos z] at hb2; rw [hb2] at f3; exact br_t z (b_M_ask_57 f3)
            · rw [if_neg z] at hb2; rw [hb2] at f3; exact br_f z (b_M_ask_57 f3)
          refine b_M_ask_27 (br_f (by decide) (lM _ _ _ (lM _ _ _ ?_)))
          by_cases z : L2 0 ≤ L2 1
          · rw [if_pos z] at hb1; rw [hb1] at f2; exact br_t z (b_M_ask_57 f2)
          · rw [if_neg z] at hb1; rw [hb1] at f2; exact br_f z (b_M_ask_57 f2)
      · exact ⟨-1, S, M, fun K H => e_O_ask (runC _ _ (br_f c0 (br_f c1 (br_f c2 H)))), fun K H => e_M_ask (runM _ _ (isIn_n (fun z => z.2 (nle_lt.mp c2)) (br_t rfl H))), hR0⟩
end
