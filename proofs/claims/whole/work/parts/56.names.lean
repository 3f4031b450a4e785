section
variable {hc hm : xH} {d e : Nat} {S M : xSt}
def NRel (c from' cnt : Nat) (S M : xSt) : Prop := ∃ nm : Nat → List Nat, (∀ i, i < cnt → nmOK (nm i) ∧ S.2.1 c i = L5 (nm i) ∧ M.2.1 2 (from' + i) = L8 (nm i)) ∧ ∀ i j, i < cnt → j < cnt → nm i = nm j → i = j
theorem NRel.fr {c from' cnt : Nat} {S' M' : xSt} (h : NRel c from' cnt S M) (h1 : ∀ i, i < cnt → S'.2.1 c i = S.2.1 c i) (h2 : ∀ i, i < cnt → M'.2.1 2 (from' + i) = M.2.1 2 (from' + i)) : NRel c from' cnt S' M' := by
  obtain ⟨nm, a, b⟩ := h
  exact ⟨nm, fun i hi => ⟨(a i hi).1, by rw [h1 i hi]; exact (a i hi).2.1, by rw [h2 i hi]; exact (a i hi).2.2⟩, b⟩
section
variable {t : Nat → Nat} {n k v q p : Nat} {l : List Nat}
theorem tk_let (h : TokR 2 v l S M) : S.2.1 19 6 = L5 l ∧ M.2.1 0 9 = L8 l ∧ nmOK l ∧ l ∉ kws := by
  obtain ⟨-, h2⟩ := h
  rcases h2 with ⟨h0, -⟩ | ⟨h0, -⟩ | ⟨-, -, h3, h4, h5, h6⟩ | ⟨h0, -⟩ | ⟨h0, -⟩ | ⟨h0, -⟩
  · omega
  · omega
  · exact ⟨h3, h4, h5, h6⟩
  · omega
  · omega
  · omega
theorem findJ {c from' cnt nr : Nat} (hl : layC[c]? = some (.inl (3, nr))) (hnr : cnt ≤ nr) (hn : nr ≤ 100) (hf : from' + cnt ≤ 22) {nm : Nat → List Nat} (hnm : ∀ i, i < cnt → nmOK (nm i) ∧ S.2.1 c i = L5 (nm i) ∧ M.2.1 2 (from' + i) = L8 (nm i)) (hd' : ∀ i j, i < cnt → j < cnt → nm i = nm j → i = j) (hS : S.2.1 19 6 = L5 l) (hM : M.2.1 0 9 = L8 l) (ok : nmOK l) : (∃ i, i < cnt ∧ (∀ hc d K, K (nI i) S → M_Rd_find hc d c (nI cnt) S K) ∧ (∀ hm e K, K (nI i) M → M_M_find hm e (nI from') (nI cnt) M K)) ∨ ((∀ i, i < cnt → nm i ≠ l) ∧ (∀ hc d K, K (-1) S → M_Rd_find hc d c (nI cnt) S K) ∧ (∀ hm e K, K (-1) M → M_M_find hm e (nI from') (nI cnt) M K)) := by
  have step : ∀ i, i < cnt → ∀ hm e x3 K, B_M_find_34 hm e (nI from') (nI cnt) (nI i) (if nm i = l then nI i else x3) M K → B_M_find_5 hm e (nI from') (nI cnt) x3 (nI i) M K := by
    intro i hi hm e x3 K H
    obtain ⟨a1, a2, a3⟩ := hnm i hi
    have e1 : nI from' + nI i = nI (from' + i) := nI_add _ _
    refine b_M_find_5 (br_f (nI_ge hi (by omega)) ?_)
    rw [e1, nCl (by omega), a3, hM]
    refine ⟨vIn (by omega) (by omega), ?_⟩
    by_cases y : nm i = l
    · rw [if_pos y] at H; exact br_nt (by rw [y]) H
    · rw [if_neg y] at H; exact br_nf (fun z => y ((L8_inj a1 ok).mp z)) H
  have stepC : ∀ i, i < cnt → ∀ hc d K, (nm i = l → K (nI i) S) → (nm i ≠ l → B_Rd_find_2 hc d c (nI cnt) (nI (i + 1)) S K) → B_Rd_find_2 hc d c (nI cnt) (nI i) S K := by
    intro i hi hc d K H1 H2
    obtain ⟨a1, a2, a3⟩ := hnm i hi
    refine b_Rd_find_2 hl (br_f (nI_ge hi (by omega)) (br_f (nI_ge (by omega) (by omega)) ⟨vIn (by omega) (by omega), ?_⟩))
    rw [nCl (by omega), a2, hS, nI_1]
    by_cases y : nm i = l
    · exact br_nt (by rw [y]) (H1 y)
    · exact br_nf (fun z => y ((L5_inj a1 ok).mp z)) (H2 y)
  by_cases ex : ∃ i, i < cnt ∧ nm i = l
  · obtain ⟨i0, h0, h1⟩ := ex
    have uni : ∀ i, i < cnt → (nm i = l ↔ i = i0) := fun i hi => ⟨fun z => hd' i i0 hi h0 (by rw [z, h1]), fun z => by rw [z]; exact h1⟩
    refine Or.inl ⟨i0, h0, fun hc d K H => e_Rd_find hl ?_, fun hm e K H => e_M_find ?_⟩
    · have go : ∀ k i, i + k = i0 → B_Rd_find_2 hc d c (nI cnt) (nI i) S K := by
        intro k
        induction k with
        | zero => intro i hi; exact stepC i (by omega) hc d K (fun _ => by rw [show i = i0 by omega]; exact H) (fun z => absurd ((uni i (by omega)).mpr (by omega)) z)
        | succ k ih => intro i hi; exact stepC i (by omega) hc d K (fun z => absurd ((uni i (by omega)).mp z) (by omega)) (fun _ => ih (i + 1) (by omega))
      exact go i0 0 (by omega)
    · refine lp_inv (B := fun i (a : Int32) => B_M_find_5 hm e (nI from') (nI cnt) a (nI i) M K) (fun i a => a = if i0 < i then nI i0 else -1) cnt (fun i a hi hI ih => ?_) (fun a hI => ?_) (-1) (by rw [if_neg (by omega)])
      · refine step i hi hm e a K (b_M_find_34 ?_)
        rw [nI_1]
        refine ih _ ?_
        by_cases y : i = i0
        · rw [if_pos ((uni i hi).mpr y), if_pos (by omega), y]
        · rw [if_neg (fun z => y ((uni i hi).mp z)), hI]
          by_cases w : i0 < i
          · rw [if_pos w, if_pos (by omega)]
          · rw [if_neg w, if_neg (by omega)]
      · rw [hI, if_pos h0]
        exact b_M_find_5 (br_t (nI_le (Nat.le_refl _) (by omega)) H)
  · have no : ∀ i, i < cnt → nm i ≠ l := fun i hi z => ex ⟨i, hi, z⟩
    refine Or.inr ⟨no, fun hc d K H => e_Rd_find hl ?_, fun hm e K H => e_M_find ?_⟩
    · have go : ∀ k i, i + k = cnt → B_Rd_find_2 hc d c (nI cnt) (nI i) S K := by
        intro k
        induction k with
        | zero => intro i hi; exact b_Rd_find_2 hl (br_t (nI_le (by omega) (by omega)) H)
        | succ k ih => intro i hi; exact stepC i (by omega) hc d K (fun z => absurd z (no i (by omega))) (fun _ => ih (i + 1) (by omega))
      exact go cnt 0 (by omega)
    · refine lp_inv (B := fun i (a : Int32) => B_M_find_5 hm e (nI from') (nI cnt) a (nI i) M K) (fun i a => a = -1) cnt (fun i a hi hI ih => ?_) (fun a hI => ?_) (-1) rfl
      · refine step i hi hm e a K (b_M_find_34 ?_)
        rw [nI_1, if_neg (no i hi)]
        exact ih _ hI
      · rw [hI]
        exact b_M_find_5 (br_t (nI_le (Nat.le_refl _) (by omega)) H)
theorem oldJ (h : QJ t n k v l q p S M) {c from' cnt nr : Nat} (hl : layC[c]? = some (.inl (3, nr))) (hnr : cnt ≤ nr) (hn : nr ≤ 100) (hf : from' + cnt ≤ 22) (hN : NRel c from' cnt S M) : (∃ i, i < cnt ∧ k = 2 ∧ (∀ K, K (nI i) S → M_Rd_oldName hc d c (nI cnt) S K) ∧ (∀ K, K (nI i) M → M_M_oldName hm e (nI from') (nI cnt) M K)) ∨ (∃ S' M', (∀ K, K (-1) S' → M_Rd_oldName hc d c (nI cnt) S K) ∧ (∀ K, K 0 M' → M_M_oldName hm e (nI from') (nI cnt) M K) ∧ Fl S M S' M') := by
  have f0 := h.2.f0
  have tk := h.1.2.2.2.2.2.1
  obtain ⟨nm, a, b⟩ := hN
  by_cases c2 : k = 2
  · subst c2
    obtain ⟨s1, s2, s3, s4⟩ := tk_let tk
    have kC := (tk_name tk (hm := hm) (e := e) (K := fun _ _ => True) trivial).1.mpr rfl
    rcases findJ hl hnr hn hf a b s1 s2 s3 with ⟨i, hi, r1, r2⟩ | ⟨no, r1, r2⟩
    · refine Or.inl ⟨i, hi, rfl, fun K H => e_Rd_oldName hl (br_t kC (r1 _ _ _ (br_nf (nM1 (by omega)) H))), fun K H => e_M_oldName (br_t f0.1 (tk_name tk ?_).2)⟩
      rw [if_pos rfl]
      exact br_nf (by decide) (r2 _ _ _ (br_t (nL0 (by omega)) (b_M_oldName_38 (br_t f0.1 (r2 _ _ _ H)))))
    · obtain ⟨S', M', g1, g2, g3, g4, g5, -⟩ := refJ h (f := 5) (by omega) (by omega)
      refine Or.inr ⟨S', M', fun K H => e_Rd_oldName hl (br_t kC (r1 _ _ _ (br_nt rfl (g1 _ _ _ H)))), fun K H => e_M_oldName (br_t f0.1 (tk_name tk ?_).2), g3, g4, g5⟩
      rw [if_pos rfl]
      exact br_nf (by decide) (r2 _ _ _ (br_f (by decide) (g2 _ _ _ (b_M_oldName_38 (br_f g5.bad.1 H)))))
  · obtain ⟨S', M', g1, g2, g3, g4, g5, -⟩ := refJ h (f := 2) (by omega) (by omega)
    have kC : ¬ S.1 19 4 = 2 := fun z => c2 ((tk_name tk (hm := hm) (e := e) (K := fun _ _ => True) trivial).1.mp z)
    refine Or.inr ⟨S', M', fun K H => e_Rd_oldName hl (br_f kC (g1 _ _ _ H)), fun K H => e_M_oldName (br_t f0.1 (tk_name tk ?_).2), g3, g4, g5⟩
    rw [if_neg c2]
    exact br_nt rfl (g2 _ _ _ (b_M_oldName_38 (br_f g5.bad.1 H)))
theorem QJ.fr {S' M' : xSt} (h : QJ t n k v l q p S M) (h1 : S'.1 1 = S.1 1) (h2 : S'.1 19 = S.1 19) (h3 : S'.2.1 19 = S.2.1 19) (h4 : S'.2.2 = S.2.2) (h5 : M'.1 1 = M.1 1) (h6 : ∀ j, 2 ≤ j → j ≤ 8 → M'.1 0 j = M.1 0 j) (h7 : M'.2.1 0 = M.2.1 0) : QJ t n k v l q p S' M' := by
  obtain ⟨⟨⟨a1, a2, a3, a4, a5⟩, ⟨b1, b2, b3, b4⟩, c1, c2, c3, c4, c5⟩, e1, e2, e3, e4⟩ := h
  refine ⟨⟨⟨a1, a2, by rw [h1]; exact a3, by rw [h4]; exact a4, by rw [h2]; exact a5⟩, ⟨b1, b2, by rw [h5]; exact b3, by rw [h6 5 (by omega) (by omega)]; exact b4⟩, by rw [h2]; exact c1, by rw [h6 7 (by omega) (by omega)]; exact c2, c3, ?_, ?_⟩, by rw [h2]; exact e1, by rw [h2]; exact e2, by rw [h6 2 (by omega) (by omega)]; exact e3, by rw [h6 3 (by omega) (by omega)]; exact e4⟩
  · unfold TokR
    rw [h2, h3, h7, h6 6 (by omega) (by omega), h6 8 (by omega) (by omega)]
    exact c4
  · rw [h2, h6 4 (by omega) (by omega)]; exact c5
/-- a new name, behind the word that opens its line -/
theorem newJ (h : QJ t n k v l q p S M) (hk : 2 ≤ k) {c from' cnt nr : Nat} (hl : layC[c]? = some (.inl (3, nr))) (hc19 : c ≠ 19) (hnr : cnt < nr) (hn : nr ≤ 100) (hf : from' + cnt < 22) (hN : NRel c from' cnt S M) {d1 d2 d3 : Nat} : ∃ S1, (∀ K, K S1 → M_Tk_advance hc d1 S K) ∧ fT S S1 ∧ ((∃ S2 M2, (∀ K, K 1 S1 → M_Rd_isNewName hc d2 c (nI cnt) S1 K) ∧ (∀ K, K S2 → M_Tk_advance hc d3 (x_putL S1 c cnt (S1.2.1 19 6)) K) ∧ (∀ K, K M2 → M_M_newName hm e (nI from') (nI cnt) M K) ∧ NRel c from' (cnt + 1) S2 M2 ∧ (∀ c', c' ≠ 19 → S2.1 c' = S.1 c') ∧ (∀ c', c' ≠ 19 → c' ≠ c → S2.2.1 c' = S.2.1 c') ∧ (∀ c', c' ≠ 0 → M2.1 c' = M.1 c') ∧ (∀ j, j < 2 ∨ 8 < j → M2.1 0 j = M.1 0 j) ∧ (∀ j, j ≠ from' + cnt → M2.2.1 2 j = M.2.1 2 j) ∧ ∃ k' v' l' q' p', QJ t n k' v' l' q' p' S2 M2 ∧ p ≤ q' ∧ k' ≤ 5) ∨ (∃ S2 M2, (∀ K, K 0 S2 → M_Rd_isNewName hc d2 c (nI cnt) S1 K) ∧ (∀ K, K M2 → M_M_newName hm e (nI from') (nI cnt) M K) ∧ Fl S M S2 M2)) := by
  have f0 := h.2.f0
  obtain ⟨S1, M1, k1, v1, l1, q1, p1, r1, r2, r3, r4, r5, r6, r7⟩ := advJ (hc := hc) (d := d1) (hm := hm) (e := e) h hk
  refine ⟨S1, r1, r3, ?_⟩
  have f1 := r5.2.f0
  have tk := r5.1.2.2.2.2.2.1
  have hN1 : NRel c from' cnt S1 M1 := hN.fr (fun i _ => by rw [r3.2.1 c hc19]) (fun i _ => by rw [r4.2.1 2 (by decide)])
  obtain ⟨nm, a, b⟩ := hN1
  by_cases c2 : k1 = 2
  · subst c2
    obtain ⟨s1, s2, s3, s4⟩ := tk_let tk
    have kC := (tk_name tk (hm := hm) (e := e) (K := fun _ _ => True) trivial).1.mpr rfl
    rcases findJ hl (by omega) hn (by omega) a b s1 s2 s3 with ⟨i, hi, g1, g2⟩ | ⟨no, g1, g2⟩
    · obtain ⟨S', M', u1, u2, u3, u4, u5, -⟩ := refJ r5 (f := 3) (by omega) (by omega)
      refine Or.inr ⟨S', M', fun K H => e_Rd_isNewName hl (br_t kC (g1 _ _ _ (br_f (nM1 (by omega)) (u1 _ _ _ ⟨zb0, H⟩)))), fun K H => e_M_newName (r2 _ (tk_name tk ?_).2), r3.tr u3, r4.tr u4, u5⟩
      rw [if_pos rfl]
      exact br_nf (by decide) (g2 _ _ _ (br_f (nN0 (by omega)) (u2 _ _ _ (b_M_newName_33 (br_f u5.bad.1 H)))))
    · have e2 : nI from' + nI cnt = nI (from' + cnt) := nI_add _ _
      have hq2 : QJ t n 2 v1 l1 q1 p1 (x_putL S1 c cnt (S1.2.1 19 6)) (x_putL M1 2 (from' + cnt) (M1.2.1 0 9)) := r5.fr rfl rfl (if_neg (fun z => hc19 z.symm)) rfl rfl (fun _ _ _ => rfl) rfl
      obtain ⟨S2, M2, k2, v2, l2, q2, p2, w1, w2, w3, w4, w5, w6, w7⟩ := advJ (hc := hc) (d := d3) (hm := hm) (e := e) hq2 (by omega)
      have hqp := (r5.1.2.2.2.2.2.2 (by omega)).2.2.1
      refine Or.inl ⟨S2, M2, fun K H => e_Rd_isNewName hl (br_t kC (g1 _ _ _ (br_t rfl H))), w1, fun K H => e_M_newName (r2 _ (tk_name tk ?_).2), ⟨fun i => if i = cnt then l1 else nm i, fun i hi => ?_, fun i j hi hj hij => ?_⟩, fun c' h' => ?_, fun c' h' h2 => ?_, fun c' h' => ?_, fun j hj => ?_, fun j hj => ?_, k2, v2, l2, q2, p2, w5, by omega, w7⟩
      · rw [if_pos rfl]
        refine br_nf (by decide) (g2 _ _ _ (br_t (by decide) (b_M_newName_33 (br_t f1.1 ?_))))
        rw [e2, nCl (by omega)]
        exact ⟨vIn (by omega) (by omega), w2 _ H⟩
      · rw [w3.2.1 c hc19, w4.2.1 2 (by decide)]
        show nmOK (if i = cnt then l1 else nm i) ∧ (if c = c then vp_updL (S1.2.1 c) cnt (S1.2.1 19 6) else S1.2.1 c) i = L5 (if i = cnt then l1 else nm i) ∧ (vp_updL (M1.2.1 2) (from' + cnt) (M1.2.1 0 9)) (from' + i) = L8 (if i = cnt then l1 else nm i)
        rw [if_pos (show c = c from rfl)]
        by_cases y : i = cnt
        · rw [if_pos y, y, pk_uLs, pk_uLs]; exact ⟨s3, s1, s2⟩
        · rw [if_neg y, pk_uLn y, pk_uLn (by omega)]; exact a i (by omega)
      · have hij : (if i = cnt then l1 else nm i) = (if j = cnt then l1 else nm j) := hij
        by_cases y : i = cnt
        · by_cases z : j = cnt
          · rw [y, z]
          · rw [if_pos y, if_neg z] at hij; exact absurd hij.symm (no j (by omega))
        · by_cases z : j = cnt
          · rw [if_neg y, if_pos z] at hij; exact absurd hij (no i (by omega))
          · rw [if_neg y, if_neg z] at hij; exact b i j (by omega) (by omega) hij
      · rw [w3.1 c' h']; exact r3.1 c' h'
      · rw [w3.2.1 c' h']
        show (if c' = c then vp_updL (S1.2.1 c) cnt (S1.2.1 19 6) else S1.2.1 c') = _
        rw [if_neg h2]; exact r3.2.1 c' h'
      · rw [w4.1 c' h']; exact r4.1 c' h'
      · rw [w4.2.2 j hj]; exact r4.2.2 j hj
      · rw [w4.2.1 2 (by decide)]
        show vp_updL (M1.2.1 2) (from' + cnt) (M1.2.1 0 9) j = _
        rw [pk_uLn hj, r4.2.1 2 (by decide)]
  · obtain ⟨S', M', u1, u2, u3, u4, u5, -⟩ := refJ r5 (f := 2) (by omega) (by omega)
    have kC : ¬ S1.1 19 4 = 2 := fun z => c2 ((tk_name tk (hm := hm) (e := e) (K := fun _ _ => True) trivial).1.mp z)
    refine Or.inr ⟨S', M', fun K H => e_Rd_isNewName hl (br_f kC (u1 _ _ _ ⟨zb0, H⟩)), fun K H => e_M_newName (r2 _ (tk_name tk ?_).2), r3.tr u3, r4.tr u4, u5⟩
    rw [if_neg c2]
    exact br_nt rfl (u2 _ _ _ (b_M_newName_33 (br_f u5.bad.1 H)))
end
end
