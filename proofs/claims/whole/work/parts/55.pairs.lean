section
variable {hc hm : xH} {d e : Nat} {S M : xSt}
def Bad (M : xSt) : Prop := ¬ M.1 0 2 ≤ 0 ∧ ¬ M.1 0 2 = 0
theorem FJ.bad (h : FJ S M) : Bad M := by
  obtain ⟨f, h1, h5, -, h2, -⟩ := h
  exact ⟨by rw [h2]; exact fun z => by have := (nLe (b := 0) (by omega) (by omega)).mp z; omega, by rw [h2]; exact fun z => by have := (nEq (b := 0) (by omega) (by omega)).mp z; omega⟩
theorem want_f {x : Int64} (h : Bad M) {K : xSt → Prop} (H : K M) : M_M_want hm e x M K := e_M_want (br_f h.1 H)
theorem toldN_f {a b : Int32} (h : Bad M) {K : Int32 → xSt → Prop} (H : K 0 M) : M_M_toldNumber hm e a b M K := e_M_toldNumber (br_f h.1 H)
theorem told_f {x : Int64} {a b : Int32} (h : Bad M) {K : Int32 → xSt → Prop} (H : K 0 M) : M_M_told hm e x a b M K := e_M_told (want_f h (toldN_f h H))
theorem opt_f {x : Int64} {a b o : Int32} (h : Bad M) {K : Int32 → xSt → Prop} (H : K o M) : M_M_option hm e x a b o M K := e_M_option (br_nf h.2 H)
theorem old_f {a b : Int32} (h : Bad M) {K : Int32 → xSt → Prop} (H : K 0 M) : M_M_oldName hm e a b M K := e_M_oldName (br_f h.1 H)
theorem NF.f0 (h : NF S M) : M.1 0 2 ≤ 0 ∧ M.1 0 2 = 0 := by rw [h.2.2.1]; exact ⟨by decide, rfl⟩
def Nx (t : Nat → Nat) (n b : Nat) (S M S' M' : xSt) : Prop := fT S S' ∧ fM M M' ∧ ∃ k v l q p, QJ t n k v l q p S' M' ∧ b ≤ q ∧ k ≤ 5
def Fl (S M S' M' : xSt) : Prop := fT S S' ∧ fM M M' ∧ FJ S' M'
section
variable {t : Nat → Nat} {n k v q p : Nat} {l : List Nat}
theorem wordC (h : QJ t n k v l q p S M) {w : Nat} (hw : w < 22) {K : Int32 → xSt → Prop} (H : K (if k = 3 ∧ v = w then 1 else 0) S) : M_Tk_isWord hc d (nI w) S K := by
  have t1 := (tk_word h.1.2.2.2.2.2.1 hw).1
  refine m_Tk_isWord ?_
  by_cases c : k = 3 ∧ v = w
  · rw [if_pos c] at H; rw [bi_pos (t1.mpr c)]; exact H
  · rw [if_neg c] at H; rw [bi_neg (fun z => c (t1.mp z))]; exact H
theorem wordM (h : QJ t n k v l q p S M) {w : Nat} (hw : w < 22) {x : Int64} (hx : x = kw8 w) {K : Int32 → xSt → Prop} (H : K (if k = 3 ∧ v = w then 1 else 0) M) : M_M_isWord hm e x M K := by
  have t1 := (tk_word h.1.2.2.2.2.2.1 hw).2
  subst hx
  refine m_M_isWord ?_
  by_cases c : k = 3 ∧ v = w
  · rw [if_pos c] at H; rw [bi_pos (t1.mpr c)]; exact H
  · rw [if_neg c] at H; rw [bi_neg (fun z => c (t1.mp z))]; exact H
theorem signC (h : QJ t n k v l q p S M) {w : Nat} (hw : w ∈ sgL) {K : Int32 → xSt → Prop} (H : K (if k = 5 ∧ v = w then 1 else 0) S) : M_Tk_isSign hc d (nI w) S K := by
  have t1 := (tk_sign h.1.2.2.2.2.2.1 hw).1
  refine m_Tk_isSign ?_
  by_cases c : k = 5 ∧ v = w
  · rw [if_pos c] at H; rw [bi_pos (t1.mpr c)]; exact H
  · rw [if_neg c] at H; rw [bi_neg (fun z => c (t1.mp z))]; exact H
theorem wantJ (h : QJ t n k v l q p S M) {w : Nat} (hw : w < 22) {x : Int64} (hx : x = kw8 w) : (∃ S' M', (∀ K, K 1 S' → M_Tk_takesWord hc d (nI w) S K) ∧ (∀ K, K M' → M_M_want hm e x M K) ∧ Nx t n q S M S' M') ∨ (∃ S' M', (∀ K, K 0 S' → M_Tk_takesWord hc d (nI w) S K) ∧ (∀ K, K M' → M_M_want hm e x M K) ∧ Fl S M S' M') := by
  have f0 := h.2.f0
  by_cases c : k = 3 ∧ v = w
  · obtain ⟨S', M', k', v', l', q', p', r1, r2, r3, r4, r5, r6, r7⟩ := advJ (hc := hc) (d := d) (hm := hm) (e := e) h (by omega)
    refine Or.inl ⟨S', M', fun K H => e_Tk_takesWord (wordC h hw ?_), fun K H => e_M_want (br_t f0.1 (wordM h hw hx ?_)), r3, r4, k', v', l', q', p', r5, by have := (h.1.2.2.2.2.2.2 (by omega)).2.2.1; omega, r7⟩
    · rw [if_pos c]; exact br_nf (by decide) (r1 _ H)
    · rw [if_pos c]; exact br_nf (by decide) (r2 _ H)
  · obtain ⟨S', M', r1, r2, r3, r4, r5, -⟩ := refJ h (f := 2) (by omega) (by omega)
    refine Or.inr ⟨S', M', fun K H => e_Tk_takesWord (wordC h hw ?_), fun K H => e_M_want (br_t f0.1 (wordM h hw hx ?_)), r3, r4, r5⟩
    · rw [if_neg c]; exact br_nt rfl (r1 _ _ _ ⟨zb0, H⟩)
    · rw [if_neg c]; exact br_nt rfl (r2 _ _ _ H)
theorem numJ (h : QJ t n k v l q p S M) {a b : Nat} (hb : b ≤ 9999) (ha : a ≤ 9999) : (∃ r, a ≤ r ∧ r ≤ b ∧ ∃ S' M', (∀ K, K (nI r) S' → M_Rd_number hc d (nI a) (nI b) S K) ∧ (∀ K, K (nI r) M' → M_M_toldNumber hm e (nI a) (nI b) M K) ∧ Nx t n q S M S' M') ∨ (∃ S' M' r, (∀ K, K (-1) S' → M_Rd_number hc d (nI a) (nI b) S K) ∧ (∀ K, K r M' → M_M_toldNumber hm e (nI a) (nI b) M K) ∧ Fl S M S' M') := by
  have f0 := h.2.f0
  obtain ⟨t1, t2, t3⟩ := tk_num h.1.2.2.2.2.2.1
  by_cases c : k = 4
  · obtain ⟨v1, v2, v3⟩ := t3 c
    by_cases y : a ≤ v ∧ v ≤ b
    · obtain ⟨S', M', k', v', l', q', p', r1, r2, r3, r4, r5, r6, r7⟩ := advJ (hc := hc) (d := d) (hm := hm) (e := e) h (by omega)
      refine Or.inl ⟨v, y.1, y.2, S', M', fun K H => e_Rd_number (br_t (t1.mpr c) ?_), fun K H => e_M_toldNumber (br_t f0.1 (br_t (t2.mpr c) ?_)), r3, r4, k', v', l', q', p', r5, by have := (h.1.2.2.2.2.2.2 (by omega)).2.2.1; omega, r7⟩
      · rw [v2]
        exact br_f (fun z => by have := (nLt (by omega) (by omega)).mp z; omega) (br_t (nI_le y.2 (by omega)) (r1 _ H))
      · rw [v3]
        refine br_f (fun z => by have := (nLt (by omega) (by omega)).mp z; omega) (br_t (nI_le y.2 (by omega)) (b_M_toldNumber_46 (br_nt f0.2 (r2 _ ?_))))
        rw [v3]; exact H
    · obtain ⟨S', M', r1, r2, r3, r4, r5, -⟩ := refJ h (f := 4) (by omega) (by omega)
      have bad := r5.bad
      refine Or.inr ⟨S', M', M'.1 0 8, fun K H => e_Rd_number (br_t (t1.mpr c) ?_), fun K H => e_M_toldNumber (br_t f0.1 (br_t (t2.mpr c) ?_)), ⟨r3, r4, r5⟩⟩
      · have B : B_Rd_number_40 hc d S K := b_Rd_number_40 (r1 _ _ _ H)
        rw [v2]
        by_cases z : v < a
        · exact br_t ((nLt (by omega) (by omega)).mpr z) B
        · exact br_f (fun w => z ((nLt (by omega) (by omega)).mp w)) (br_f (fun w => by have := (nLe (by omega) (by omega)).mp w; omega) B)
      · have B : B_M_toldNumber_41 hm e M K := b_M_toldNumber_41 (r2 _ _ _ (b_M_toldNumber_46 (br_nf bad.2 H)))
        rw [v3]
        by_cases z : v < a
        · exact br_t ((nLt (by omega) (by omega)).mpr z) B
        · exact br_f (fun w => z ((nLt (by omega) (by omega)).mp w)) (br_f (fun w => by have := (nLe (by omega) (by omega)).mp w; omega) B)
  · obtain ⟨S', M', r1, r2, r3, r4, r5, -⟩ := refJ h (f := 2) (by omega) (by omega)
    have bad := r5.bad
    refine Or.inr ⟨S', M', M'.1 0 8, fun K H => e_Rd_number (br_f (fun z => c (t1.mp z)) (r1 _ _ _ H)), fun K H => e_M_toldNumber (br_t f0.1 (br_f (fun z => c (t2.mp z)) (r2 _ _ _ (b_M_toldNumber_46 (br_nf bad.2 H))))), ⟨r3, r4, r5⟩⟩
theorem Nx.tr {S1 M1 S2 M2 : xSt} {b b' : Nat} (f1 : fT S S1) (f2 : fM M M1) (h : Nx t n b' S1 M1 S2 M2) (hb : b ≤ b') : Nx t n b S M S2 M2 := by
  obtain ⟨a, c, k, v, l, q, p, g1, g2, g3⟩ := h
  exact ⟨f1.tr a, f2.tr c, k, v, l, q, p, g1, by omega, g3⟩
theorem Fl.tr {S1 M1 S2 M2 : xSt} (f1 : fT S S1) (f2 : fM M M1) (h : Fl S1 M1 S2 M2) : Fl S M S2 M2 := ⟨f1.tr h.1, f2.tr h.2.1, h.2.2⟩
theorem optJ (h : QJ t n k v l q p S M) (hk : k ≤ 5) {w : Nat} (hw : w < 22) {x : Int64} (hx : x = kw8 w) {a b o : Nat} (hb : b ≤ 9999) (ha : a ≤ 9999) : (∃ r, ((a ≤ r ∧ r ≤ b) ∨ r = o) ∧ ∃ S' M', (∀ K, K (nI r) S' → M_Rd_optional hc d (nI w) (nI a) (nI b) (nI o) S K) ∧ (∀ K, K (nI r) M' → M_M_option hm e x (nI a) (nI b) (nI o) M K) ∧ Nx t n q S M S' M') ∨ (∃ S' M' r, (∀ K, K (-1) S' → M_Rd_optional hc d (nI w) (nI a) (nI b) (nI o) S K) ∧ (∀ K, K r M' → M_M_option hm e x (nI a) (nI b) (nI o) M K) ∧ Fl S M S' M') := by
  have f0 := h.2.f0
  by_cases c : k = 3 ∧ v = w
  · have hqp := (h.1.2.2.2.2.2.2 (by omega)).2.2.1
    obtain ⟨S1, M1, k1, v1, l1, q1, p1, r1, r2, r3, r4, r5, r6, r7⟩ := advJ (hc := hc) (d := d + 1) (hm := hm) (e := e) h (by omega)
    have pre : ∀ K, M_M_toldNumber hm e (nI a) (nI b) M1 (fun r2 S2 => K r2 S2) → M_M_option hm e x (nI a) (nI b) (nI o) M K := by
      intro K H
      refine e_M_option (br_nt f0.2 (wordM h hw hx ?_))
      rw [if_pos c]
      refine br_f (by decide) (e_M_told (e_M_want (br_t f0.1 (wordM h hw hx ?_))))
      rw [if_pos c]
      exact br_nf (by decide) (r2 _ H)
    have preC : ∀ K, M_Rd_number hc d (nI a) (nI b) S1 (fun r3 S3 => K r3 S3) → M_Rd_optional hc d (nI w) (nI a) (nI b) (nI o) S K := by
      intro K H
      refine e_Rd_optional (wordC h hw ?_)
      rw [if_pos c]
      exact br_nf (by decide) (r1 _ H)
    rcases numJ (hc := hc) (d := d) (hm := hm) (e := e) r5 hb ha with ⟨r, g1, g2, S', M', s1, s2, s3⟩ | ⟨S', M', r, s1, s2, s3⟩
    · refine Or.inl ⟨r, Or.inl ⟨g1, g2⟩, S', M', fun K H => preC K (s1 _ H), fun K H => pre K (s2 _ H), ?_⟩
      obtain ⟨a1, a2, k', v', l', q', p', g3, g4, g5⟩ := s3
      refine ⟨r3.tr a1, r4.tr a2, k', v', l', q', p', g3, by omega, g5⟩
    · exact Or.inr ⟨S', M', r, fun K H => preC K (s1 _ H), fun K H => pre K (s2 _ H), s3.tr r3 r4⟩
  · refine Or.inl ⟨o, Or.inr rfl, S, M, fun K H => e_Rd_optional (wordC h hw ?_), fun K H => e_M_option (br_nt f0.2 (wordM h hw hx ?_)), fT.rf S, fM.rf M, k, v, l, q, p, h, Nat.le_refl _, hk⟩
    · rw [if_neg c]; exact br_nt rfl H
    · rw [if_neg c]; exact br_t rfl H
end
end
