section
variable {hc hm : xH} {d e : Nat} {S M : xSt}
/-- a button's thread behind i days of told weather -/
def tIt (S : xSt) (n : Nat) (step arg : Nat → Int32) (b : Nat) (w : Nat → Int32) : Nat → Int32
  | 0 => S.1 42 (10 + b)
  | i + 1 => tIt S n step arg b w i - clmp (tIt S n step arg b w i) (wAmt n step arg (tIt S n step arg b w i) (hol S b) (w i) (S.1 42 20 + nI i))
theorem tIt_N {n b : Nat} {step arg w : Nat → Int32} (h : ∃ k, k ≤ 99 ∧ S.1 42 (10 + b) = nI k) : ∀ i, ∃ k, k ≤ 99 ∧ tIt S n step arg b w i = nI k := by
  intro i
  induction i with
  | zero => exact h
  | succ i ih =>
    obtain ⟨k, hk, ek⟩ := ih
    obtain ⟨q, h1, h2⟩ := clmp_N k (by omega) (wAmt n step arg (nI k) (hol S b) (w i) (S.1 42 20 + nI i))
    refine ⟨k - q, by omega, ?_⟩
    show tIt S n step arg b w i - clmp (tIt S n step arg b w i) _ = _
    rw [ek, h2, pk_sub h1]
theorem tIt_0 {n b i : Nat} {step arg w : Nat → Int32} (h : tIt S n step arg b w i = 0) (k : Nat) : tIt S n step arg b w (i + k) = 0 := by
  induction k with
  | zero => exact h
  | succ k ih =>
    show tIt S n step arg b w (i + k) - clmp (tIt S n step arg b w (i + k)) (wAmt n step arg (tIt S n step arg b w (i + k)) (hol S b) (w (i + k)) (S.1 42 20 + nI (i + k))) = _
    rw [ih]
    obtain ⟨q, h1, h2⟩ := clmp_N 0 (by omega) (wAmt n step arg 0 (hol S b) (w (i + k)) (S.1 42 20 + nI (i + k)))
    have : q = 0 := by omega
    subst this
    rw [show (0 : Int32) = nI 0 from rfl] at h2 ⊢
    rw [h2]; rfl
theorem tIt_ext {n b : Nat} {step arg w w' : Nat → Int32} {N : Nat} (h : ∀ i, i < N → w i = w' i) : tIt S n step arg b w N = tIt S n step arg b w' N := by
  induction N with
  | zero => rfl
  | succ i ih =>
    show tIt S n step arg b w i - clmp (tIt S n step arg b w i) (wAmt n step arg (tIt S n step arg b w i) (hol S b) (w i) (S.1 42 20 + nI i)) = _
    rw [ih (fun j hj => h j (by omega)), h i (by omega)]; rfl
theorem m_threadBehind {nm nb n b N : Nat} {step arg : Nat → Int32} (hW : WP nm nb n step arg S) (hb : b < nb) (hN : N ≤ 60) (x3 : Int64) {K : Int32 → xSt → Prop} (H : ∀ S', eq1 S S' → K (tIt S n step arg b (fun i => ((x3 >>> ((nI i).toInt64 &&& 63)) &&& (1 : Int64)).toInt32) N) S') : M_Th_threadBehind hc d (nI b) (nI N) x3 S K := by
  have hb10 := hW.2.1.2
  have e10 : (10 : Int32) + nI b = nI (10 + b) := by rw [show (10 : Int32) = nI 10 from rfl, nI_add]
  have c10 : ((10 : Int32) + nI b).toNatClampNeg = 10 + b := by rw [e10]; exact nCl (by omega)
  have w23 : vp_in ((10 : Int32) + nI b) 23 := by rw [e10]; exact vIn (by omega) (by omega)
  refine e_Th_threadBehind (m_Co_threadOf w23 ?_)
  rw [c10]
  refine lp_inv (B := fun i (q : xSt) => B_Th_threadBehind_13 hc d (nI b) (nI N) x3 (tIt S n step arg b (fun i => ((x3 >>> ((nI i).toInt64 &&& 63)) &&& (1 : Int64)).toInt32) i) (nI i) q K) (fun i q => eq1 S q) N (fun i q hi hI ih => ?_) (fun q hI => ?_) S (fun c _ => rfl)
  · refine b_Th_threadBehind_13 (br_f (nI_ge hi (by omega)) (m_Co_today (m_worn (hW.congr hI.two) hb (fun f => ?_))))
    rw [hI.hol, nI_1, hI 42 (by decide)]
    exact ih (x_putA q 17 f) (fun c hc => (gA_n _ _ hc).trans (hI c hc))
  · exact b_Th_threadBehind_13 (br_t (nI_le (Nat.le_refl _) (by omega)) (H q hI))
/-- what the reference's wear may change -/
abbrev eqW (M M' : xSt) : Prop := ∀ c, c ≠ 8 → c ≠ 9 → M'.1 c = M.1 c
theorem eqW.frd {M' : xSt} (h : eqW M M') : FrD M M' := ⟨fun c _ h1 h2 _ _ => h c h1 h2, fun j _ _ => by rw [h 0 (by decide) (by decide)]⟩
theorem eqW.put {M' : xSt} (h : eqW M M') (f g : Nat → Int32) : eqW M (x_putA (x_putA M' 9 f) 8 g) := fun c h1 h2 => by rw [gA_n _ _ h1, gA_n _ _ h2]; exact h c h1 h2
/-- one day of wear, as the reference asks for it -/
theorem m_wearDay {nm nb n b : Nat} (hD : MD nm nb n S M) (hb : b < nb) {M' : xSt} (hM : eqW M M') {t : Int32} (ht : ∃ k, k ≤ 99 ∧ t = nI k) (x3 x4 : Int32) {K : Int32 → xSt → Prop} (H : ∀ M2, eqW M M2 → K (clmp t (wAmt n (M.1 5) (M.1 6) t (hol S b) x3 x4)) M2) : vp_in (nI b) 10 ∧ (vp_in (M'.1 27 (nI b).toNatClampNeg) 6 ∧ M_M_wearOf hm e t (M'.1 16 (M'.1 27 (nI b).toNatClampNeg).toNatClampNeg) x3 x4 M' K) := by
  obtain ⟨k, hk, rfl⟩ := ht
  have hb10 := hD.1.2
  have ci : (nI b).toNatClampNeg = b := nCl (by omega)
  have h27 := hM 27 (by decide) (by decide)
  have h16 := hM 16 (by decide) (by decide)
  have hn6 := hD.2.1
  obtain ⟨k1, ⟨m, hm1, em⟩, -⟩ := hD.2.2.1 b hb
  have h2 := hD.2.2.2.1 m hm1
  rw [ci, h27, h16, k1]
  have eh : M.1 16 (S.1 8 b).toNatClampNeg = hol S b := by
    show _ = S.1 4 (S.1 8 b).toNatClampNeg
    rw [em, nCl (by omega)]; exact h2
  refine ⟨vIn (by omega) (by omega), by rw [em]; exact vIn (by omega) (by omega), ?_⟩
  rw [eh]
  have es : M'.1 5 = M.1 5 := hM _ (by decide) (by decide)
  have ea : M'.1 6 = M.1 6 := hM _ (by decide) (by decide)
  refine m_wear (hD.fr hM.frd) hk _ _ _ (fun f g => ?_)
  rw [es, ea]
  exact H _ (hM.put f g)
theorem m_threadSame {nm nb n b N : Nat} (hD : MD nm nb n S M) (hN : Row nb (S.1 42) (M.1 34)) (hb : b < nb) (hN1 : N ≤ 60) (x3 : Int32) {K : Int32 → xSt → Prop} (H : ∀ M', eqW M M' → K (tIt S n (M.1 5) (M.1 6) b (fun _ => x3) N) M') : M_M_threadSame hm e (nI b) (nI N) x3 M K := by
  have hb10 := hD.1.2
  have e10 : (10 : Int32) + nI b = nI (10 + b) := by rw [show (10 : Int32) = nI 10 from rfl, nI_add]
  have c10 : ((10 : Int32) + nI b).toNatClampNeg = 10 + b := by rw [e10]; exact nCl (by omega)
  refine e_M_threadSame ⟨by rw [e10]; exact vIn (by omega) (by omega), ?_⟩
  rw [c10, (hN.1 b hb).2.1]
  refine lp_inv (B := fun i (q : xSt) => B_M_threadSame_14 hm e (nI b) (nI N) x3 (tIt S n (M.1 5) (M.1 6) b (fun _ => x3) i) (nI i) q K) (fun i q => eqW M q) N (fun i q hi hI ih => ?_) (fun q hI => ?_) M (fun c _ _ => rfl)
  · refine b_M_threadSame_14 (br_f (nI_ge hi (by omega)) ?_)
    obtain ⟨k, hk, ek⟩ := tIt_N (n := n) (step := M.1 5) (arg := M.1 6) (w := fun _ => x3) (hN.1 b hb).2.2 i
    by_cases c : tIt S n (M.1 5) (M.1 6) b (fun _ => x3) i ≤ 0
    · refine br_t c ?_
      have z : tIt S n (M.1 5) (M.1 6) b (fun _ => x3) i = 0 := by
        rw [ek] at c ⊢
        have : k = 0 := by
          have := (nLe (b := 0) (by omega) (by omega)).mp c
          omega
        rw [this]; rfl
      have := tIt_0 z (N - i)
      rw [show i + (N - i) = N by omega] at this
      rw [z, ← this]; exact H q hI
    · refine br_f c (m_wearDay hD hb hI ⟨k, hk, ek⟩ _ _ (fun M2 h2 => ?_))
      rw [nI_1, hI 34 (by decide) (by decide), hN.2.1]
      exact ih M2 h2
  · exact b_M_threadSame_14 (br_t (nI_le (Nat.le_refl _) (by omega)) (H q hI))
theorem RelP.eq1W {nm nd nb nf hd st : Nat} {S2 M2 : xSt} (hP : RelP nm nd nb nf hd st S M) (hS : eq1 S S2) (hM : eqW M M2) : RelP nm nd nb nf hd st S2 M2 :=
  hP.same (fun c hc => hS c (by revert c; decide)) (hS _ (by decide)) (hS _ (by decide)) (hS _ (by decide)) (fun c hc => hM c (by revert c; decide) (by revert c; decide)) (fun j _ => by rw [hM 0 (by decide) (by decide)]) (hM _ (by decide) (by decide)) (hM _ (by decide) (by decide)) (by rw [hM 0 (by decide) (by decide)]) (by rw [hM 0 (by decide) (by decide)])
theorem m1_bit (i : Nat) (hi : i < 60) : (((-1 : Int64) >>> ((nI i).toInt64 &&& 63)) &&& (1 : Int64)).toInt32 = 1 := by
  revert i
  decide +kernel
theorem z_bit (i : Nat) (hi : i < 60) : (((0 : Int64) >>> ((nI i).toInt64 &&& 63)) &&& (1 : Int64)).toInt32 = 0 := by
  revert i
  decide +kernel
theorem sim_holds (hR : Rel S M) (x1 x2 x3 : Int32) : OK2 Rel (M_O_holds hc d x1 x2 x3 S) (M_M_holds hm e x1 x2 x3 M) := by
  have hR0 := hR
  obtain ⟨nm, nd, nb, nf, hd, st, hP⟩ := hR
  have hN : Row nb (S.1 42) (M.1 34) := hP.2.2.2.1
  have hb : nb ≤ 10 := hP.1.2.2.1.2
  have eb := hP.1.2.2.1.1
  have em : M.1 0 58 = S.1 2 6 := hP.2.1.1.2.2.1
  obtain ⟨n, hW, hD⟩ := hP.wp
  rcases outC x1 eb (by omega) with c | ⟨b, hb1, rfl, c1, c2⟩
  · exact e_O_holds (btnOn_n c (br_t rfl (e_M_holds (isBut_n eb em (by omega) c (br_t rfl ⟨rfl, hR0⟩)))))
  have eon := (hN.1 b hb1).1
  by_cases on : S.1 42 b = 0
  case neg => exact e_O_holds (btnOn_f (by omega) on (br_t rfl (e_M_holds (isBut_y eb em (by omega) c1 c2 (br_f (by decide) (isOn_n (by omega) (by rw [eon]; exact on) (br_t rfl ⟨rfl, hR0⟩)))))))
  refine e_O_holds (btnOn_y (by omega) c1 c2 on (br_f (by decide) ?_))
  have toM : ∀ {K}, M_M_isIn hm (e + 3) x2 0 60 M (fun r3 S3 => (r3 = 0 → K (-1) S3) ∧ (¬ r3 = 0 → M_M_isIn hm (e + 3) x3 0 1 S3 (fun r4 S4 => (¬ r4 = 0 → M_M_threadSame hm e (nI b) x2 x3 S4 (fun r5 S5 => K r5 S5)) ∧ (r4 = 0 → K (-1) S4)))) → M_M_holds hm e (nI b) x2 x3 M K := fun H => e_M_holds (isBut_y eb em (by omega) c1 c2 (br_f (by decide) (isOn_y (by omega) (eon.trans on) (br_f (by decide) H))))
  by_cases a1 : x2 < 0
  · exact br_t a1 (toM (isIn_n (fun z => z.1 a1) (br_t rfl ⟨rfl, hR0⟩)))
  refine br_f a1 ?_
  by_cases a2 : 60 < x2
  · exact br_t a2 (toM (isIn_n (fun z => z.2 a2) (br_t rfl ⟨rfl, hR0⟩)))
  refine br_f a2 ?_
  by_cases a3 : x3 < 0
  · exact br_t a3 (toM (isIn_y ⟨a1, a2⟩ (br_f (by decide) (isIn_n (fun z => z.1 a3) (br_nt rfl ⟨rfl, hR0⟩)))))
  refine br_f a3 ?_
  obtain ⟨N, hN1, rfl⟩ := nI_of a1
  have hN60 : N ≤ 60 := by
    rw [show (60 : Int32) = nI 60 from rfl, nLt (by omega) hN1] at a2; omega
  by_cases a4 : x3 ≤ 1
  · refine br_t a4 ?_
    have a4' : ¬ 1 < x3 := by rw [Int32.lt_iff_toInt_lt]; rw [Int32.le_iff_toInt_le] at a4; omega
    have fin : ∀ S2 r, eq1 S S2 → r = tIt S n (M.1 5) (M.1 6) b (fun _ => x3) N → M_M_holds hm e (nI b) (nI N) x3 M (fun r' M' => r' = r ∧ Rel S2 M') := fun S2 r h2 h3 => toM (isIn_y ⟨a1, a2⟩ (br_f (by decide) (isIn_y ⟨a3, a4'⟩ (br_nf (by decide) (m_threadSame hD hN hb1 hN60 x3 (fun M2 hM2 => ⟨h3.symm, nm, nd, nb, nf, hd, st, hP.eq1W h2 hM2⟩))))))
    by_cases z : x3 = 0
    · refine br_nt z (m_threadBehind hW hb1 hN60 0 (fun S2 h2 => fin S2 _ h2 (tIt_ext (fun i hi => ?_))))
      rw [z_bit i (by omega), z]
    · have z1 : x3 = 1 := by
        apply i32
        rw [Int32.le_iff_toInt_le] at a4
        rw [Int32.lt_iff_toInt_lt] at a3
        have e0 : (0 : Int32).toInt = 0 := by decide
        have e1 : (1 : Int32).toInt = 1 := by decide
        have : x3.toInt ≠ 0 := fun q => z (i32 (by rw [q, e0]))
        omega
      refine br_nf z (m_threadBehind hW hb1 hN60 (-1) (fun S2 h2 => fin S2 _ h2 (tIt_ext (fun i hi => ?_))))
      rw [m1_bit i (by omega), z1]
  · refine br_f a4 (toM (isIn_y ⟨a1, a2⟩ (br_f (by decide) (isIn_n (fun z => a4 ?_) (br_nt rfl ⟨rfl, hR0⟩)))))
    have := z.2
    rw [Int32.lt_iff_toInt_lt] at this
    rw [Int32.le_iff_toInt_le]; omega
end
