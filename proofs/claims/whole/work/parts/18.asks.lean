section
def vsel (l : List Int32) (dflt x : Int32) : Int32 := if x.toInt < 0 ∨ (l.length : Int) ≤ x.toInt then dflt else l.getD x.toInt.toNat dflt
theorem vsel_out {l : List Int32} {dflt x : Int32} {m : Int} (hm : (l.length : Int) = m + 1) (h : x.toInt < 0 ∨ m < x.toInt) : vsel l dflt x = dflt := by
  unfold vsel
  rw [if_pos (by omega)]
variable {hc hm : xH} {d e : Nat} {S M : xSt}
theorem sim_likes (hR : Rel S M) (x1 x2 : Int32) : OKi Rel (M_O_likes hc d x1 x2 S) (M_M_likes hm e x1 x2 M) := by
  have hR0 := hR
  obtain ⟨nm, nd, nb, nf, hd, st, hT, hM, hW, hN, hH, hB, hG, hL, hF, hA⟩ := hR
  have tm := hT.1
  obtain ⟨⟨mm, -⟩, -, -, -, hw⟩ := hM
  rcases outC x1 tm.1 (by omega) with c | ⟨i, hi, rfl, c1, c2⟩
  · exact ⟨_, S, M, fun K H => e_O_likes (hMan_n c (br_t rfl H)), fun K H => e_M_likes (isMan_n tm.1 mm (by omega) c (br_t rfl H)), hR0⟩
  · rcases outC x2 tm.1 (by omega) with c | ⟨j, hj, rfl, c3, c4⟩
    · exact ⟨_, S, M, fun K H => e_O_likes (hMan_y c1 c2 (br_f (by decide) (hMan_n c (br_nt rfl H)))), fun K H => e_M_likes (isMan_y tm.1 mm (by omega) c1 c2 (br_f (by decide) (isMan_n tm.1 mm (by omega) c (br_t rfl H)))), hR0⟩
    · have e1 : nI i * (6 : Int32) + nI j = nI (6 * i + j) := by rw [show (6 : Int32) = nI 6 from rfl, pk_mul, nI_add, Nat.mul_comm]
      have e2 : (6 : Int32) * nI i + nI j = nI (6 * i + j) := by rw [show (6 : Int32) = nI 6 from rfl, pk_mul, nI_add]
      have v : vp_in (nI (6 * i + j)) 36 := vIn (by omega) (by omega)
      have ci : (nI (6 * i + j)).toNatClampNeg = 6 * i + j := nCl (by omega)
      refine ⟨S.1 14 (6 * i + j), S, M, fun K H => e_O_likes (hMan_y c1 c2 (br_f (by decide) (hMan_y c3 c4 (br_nf (by decide) (m_Rg_worthOf_2 (by rw [e1]; exact v) (by rw [e1, ci]; exact H)))))), fun K H => e_M_likes (isMan_y tm.1 mm (by omega) c1 c2 (br_f (by decide) (isMan_y tm.1 mm (by omega) c3 c4 (br_f (by decide) ?_)))), hR0⟩
      by_cases hij : i = j
      · subst hij
        refine br_t rfl ?_
        rw [hT.2.2.2.2.2.2.2.2.2.2 i (by omega)] at H; exact H
      · refine br_f (fun z => hij ((nEq (by omega) (by omega)).mp z)) ?_
        rw [e2, ci, hw i j hi hj]
        exact ⟨v, H⟩
theorem sim_button (hR : Rel S M) (x1 x2 : Int32) : OKi Rel (M_O_button hc d x1 x2 S) (M_M_button hm e x1 x2 M) := by
  have hR0 := hR
  obtain ⟨nm, nd, nb, nf, hd, st, hT, hM, hW, hN, hH, hB, hG, hL, hF, hA⟩ := hR
  have hb : nb ≤ 10 := hT.2.2.1.2
  have hb2 : S.1 2 6 = nI nb := hT.2.2.1.1
  obtain ⟨⟨mm, md, mb, -⟩, -, -, hbt, -⟩ := hM
  have hbs := hT.2.2.2.2.2.2.2.2.1
  rcases outC x1 hb2 (by omega) with c | ⟨j, hj, rfl, c1, c2⟩
  · exact ⟨_, S, M, fun K H => e_O_button (hBut_n c (br_nt rfl H)), fun K H => e_M_button (isBut_n hb2 mb (by omega) c (br_nt rfl H)), hR0⟩
  · have nj : M.1 34 j = S.1 42 j := (hN.1 j hj).1
    have tj : M.1 34 (10 + j) = S.1 42 (10 + j) := (hN.1 j hj).2.1
    have ci : (nI j).toNatClampNeg = j := nCl (by omega)
    have e10 : (10 : Int32) + nI j = nI (10 + j) := by rw [show (10 : Int32) = nI 10 from rfl, nI_add]
    have c10 : ((10 : Int32) + nI j).toNatClampNeg = 10 + j := by rw [e10]; exact nCl (by omega)
    have v23 : vp_in (nI j) 23 := vIn (by omega) (by omega)
    have v24 : vp_in (nI j) 24 := vIn (by omega) (by omega)
    have v10 : vp_in (nI j) 10 := vIn (by omega) (by omega)
    have w23 : vp_in ((10 : Int32) + nI j) 23 := by rw [e10]; exact vIn (by omega) (by omega)
    have w24 : vp_in ((10 : Int32) + nI j) 24 := by rw [e10]; exact vIn (by omega) (by omega)
    obtain ⟨g1, g2, g3, g4, g5, g6, g7⟩ := hbt j hj
    refine ⟨vsel [S.1 42 j, S.1 42 (10 + j), S.1 7 j, S.1 8 j, S.1 9 j, S.1 10 j, S.1 11 j, S.1 13 j] (-2) x2, S, M, fun K H => e_O_button (hBut_y c1 c2 (br_nf (by decide) ?_)), fun K H => e_M_button (isBut_y hb2 mb (by omega) c1 c2 (br_nf (by decide) ?_)), hR0⟩
    · rw [ci]
      refine ⟨fun o => ?_, fun h => ?_, fun h => ?_, fun h => ?_, fun h => ?_, fun h => ?_, fun h => ?_, fun h => ?_, fun h => ?_⟩
      · rw [vsel_out (m := 7) rfl o] at H; exact H
      · subst h; exact m_Co_stateOf v23 (by rw [ci]; exact H)
      · subst h; exact m_Co_threadOf w23 (by rw [c10]; exact H)
      · subst h; exact ⟨v10, H⟩
      · subst h; exact ⟨v10, H⟩
      · subst h; exact ⟨v10, H⟩
      · subst h; exact ⟨v10, H⟩
      · subst h; exact ⟨v10, H⟩
      · subst h; exact ⟨v10, H⟩
    · rw [ci, c10, nj, tj, g1, g2, g3, g4, g5, g7]
      refine ⟨fun o => ?_, fun h => ?_, fun h => ?_, fun h => ?_, fun h => ?_, fun h => ?_, fun h => ?_, fun h => ?_, fun h => ?_⟩
      · rw [vsel_out (m := 7) rfl o] at H; exact H
      · subst h; exact ⟨v24, H⟩
      · subst h; exact ⟨w24, H⟩
      · subst h; exact ⟨v10, H⟩
      · subst h; exact ⟨v10, H⟩
      · subst h; exact ⟨v10, H⟩
      · subst h
        have H : K (S.1 10 j) M := H
        refine ⟨v10, ?_⟩
        rcases (hbs j hj).2.2.2.1 with q | q
        · rw [q] at H ⊢; exact truth0 H
        · rw [q] at H ⊢; exact truth1 H
      · subst h; exact ⟨v10, H⟩
      · subst h; exact ⟨v10, H⟩
theorem sim_about (hR : Rel S M) (x1 : Int32) : OKi Rel (M_O_about hc d x1 S) (M_M_about hm e x1 M) := by
  have hR0 := hR
  obtain ⟨nm, nd, nb, nf, hd, st, hT, hM, ⟨w, -, -, -, -, wu, -⟩, hN, ⟨dn, kn, h1, h2, e1, e2, e3, e4, -⟩, hB, ⟨tn, tt, -, -, t1, t2, t3, t4, -⟩, ⟨ln, -, l1, l2, -⟩, hF, ⟨an, -, a1, a2, -⟩⟩ := hR
  obtain ⟨⟨mm, md, mb, mf, mh, ms⟩, -⟩ := hM
  have hk : S.1 43 5 - S.1 43 4 = M.1 0 70 := by rw [e1, e2, e4, pk_sub h1]
  refine ⟨vsel [S.1 2 6, S.1 2 0, S.1 2 4, S.1 2 14, S.1 42 20, S.1 42 21, S.1 42 22, S.1 2 17, S.1 43 4, S.1 43 5 - S.1 43 4, S.1 57 6, S.1 57 7, S.1 0 1, S.1 15 3, S.1 0 11] (-1) x1, S, M, fun K H => e_O_about ?_, fun K H => e_M_about ?_, hR0⟩
  · refine ⟨fun o => ?_, fun h => ?_, fun h => ?_, fun h => ?_, fun h => ?_, fun h => ?_, fun h => ?_, fun h => ?_, fun h => ?_, fun h => ?_, fun h => ?_, fun h => ?_, fun h => ?_, fun h => ?_, fun h => ?_, fun h => ?_⟩
    · rw [vsel_out (m := 14) rfl o] at H; exact H
    · subst h; exact H
    · subst h; exact H
    · subst h; exact H
    · subst h; exact H
    · subst h; exact m_Co_today H
    · subst h; exact m_Co_seed H
    · subst h; exact m_Co_cuts H
    · subst h; exact H
    · subst h; exact H
    · subst h; exact H
    · subst h; exact H
    · subst h; exact H
    · subst h; exact H
    · subst h; exact H
    · subst h; exact H
  · rw [mb, mm, md, mf, hN.2.1, hN.2.2.1, hN.2.2.2.1, mh, e3, ← hk, t3, t4, a2, wu, l2, ← e1, ← t1, ← t2, ← a1, ← l1]
    refine ⟨fun o => ?_, fun h => ?_, fun h => ?_, fun h => ?_, fun h => ?_, fun h => ?_, fun h => ?_, fun h => ?_, fun h => ?_, fun h => ?_, fun h => ?_, fun h => ?_, fun h => ?_, fun h => ?_, fun h => ?_, fun h => ?_⟩
    · rw [vsel_out (m := 14) rfl o] at H; exact H
    all_goals (subst h; exact H)
theorem isIn_y {x a b : Int32} {K : Int32 → xSt → Prop} (h : ¬ x < a ∧ ¬ b < x) (H : K 1 M) : M_M_isIn hm e x a b M K := m_M_isIn (by rw [bi_pos h]; exact H)
theorem isIn_n {x a b : Int32} {K : Int32 → xSt → Prop} (h : ¬ (¬ x < a ∧ ¬ b < x)) (H : K 0 M) : M_M_isIn hm e x a b M K := m_M_isIn (by rw [bi_neg h]; exact H)
theorem sim_tug (hR : Rel S M) (x1 x2 x3 : Int32) (hz : x3 = 0 ∨ x3 = 1) : OKi Rel (M_O_tug hc d x1 x2 x3 S) (M_M_tug hm e x1 x2 x3 M) := by
  have hR0 := hR
  obtain ⟨nm, nd, nb, nf, hd, st, hT, hM, hW, hN, hH, hB, ⟨n, t, h1, h2, e1, e2, e3, e4, ht⟩, hL, hF, hA⟩ := hR
  by_cases c1 : x1 < 0
  · exact ⟨_, S, M, fun K H => e_O_tug (br_t c1 H), fun K H => e_M_tug (isIn_n (fun z => z.1 c1) (br_t rfl H)), hR0⟩
  · by_cases c2 : 2 < x1
    · exact ⟨_, S, M, fun K H => e_O_tug (br_f c1 (br_t c2 H)), fun K H => e_M_tug (isIn_n (fun z => z.2 c2) (br_t rfl H)), hR0⟩
    · by_cases c3 : x2 < 0
      · exact ⟨_, S, M, fun K H => e_O_tug (br_f c1 (br_f c2 (br_t c3 H))), fun K H => e_M_tug (isIn_y ⟨c1, c2⟩ (br_f (by decide) (isIn_n (fun z => z.1 c3) (br_t rfl H)))), hR0⟩
      · by_cases c4 : 9 < x2
        · exact ⟨_, S, M, fun K H => e_O_tug (br_f c1 (br_f c2 (br_f c3 (br_t c4 H)))), fun K H => e_M_tug (isIn_y ⟨c1, c2⟩ (br_f (by decide) (isIn_n (fun z => z.2 c4) (br_t rfl H)))), hR0⟩
        · by_cases c5 : n < 30
          · have k1 : S.1 57 6 < 30 := by rw [e1]; exact nI_lt (b := 30) c5 (by omega)
            have k2 : ¬ M.1 0 93 = 30 := by rw [e3]; exact fun z => absurd ((nEq (b := 30) (by omega) (by omega)).mp z) (by omega)
            have v1 : vp_in (S.1 57 6) 30 := by rw [e1]; exact vIn c5 (by omega)
            have v2 : vp_in (M.1 0 93) 30 := by rw [e3]; exact vIn c5 (by omega)
            have n1 : (S.1 57 6).toNatClampNeg = n := by rw [e1]; exact nCl (by omega)
            have n2 : (M.1 0 93).toNatClampNeg = n := by rw [e3]; exact nCl (by omega)
            have s1 : S.1 57 6 + 1 - 1 = nI n := by rw [e1, nI_1, nI_pred]
            have s2 : M.1 0 93 + 1 - 1 = nI n := by rw [e3, nI_1, nI_pred]
            have hnar : vp_nar .boolean x3 = x3 := by rcases hz with rfl | rfl <;> decide +kernel
            refine OKi.mk (r := nI n) (fun K H => e_O_tug (br_f c1 (br_f c2 (br_f c3 (br_f c4 (br_t k1 (e_Tg_tell (br_t k1 ⟨v1, v1, v1, v1, v1, ek_v (P := fun z => K z _) s1 H⟩)))))))) (fun K H => e_M_tug (isIn_y ⟨c1, c2⟩ (br_f (by decide) (isIn_y ⟨c3, c4⟩ (br_f (by decide) (br_nf k2 ⟨v2, v2, v2, v2, v2, ek_v (P := fun z => K z _) s2 H⟩)))))) ?_
            rw [n1, n2, hnar]
            refine ⟨nm, nd, nb, nf, hd, st, hT, hM, hW, hN, hH, hB, ⟨n + 1, t, by omega, h2, ?_, e2, ?_, e4, fun j hj => ?_⟩, hL, hF, hA⟩
            · show S.1 57 6 + 1 = _
              rw [e1, nI_1]
            · show M.1 0 93 + 1 = _
              rw [e3, nI_1]
            · show upd (M.1 45) n x1 j = upd (S.1 58) n x1 j ∧ upd (M.1 46) n x2 j = upd (S.1 59) n x2 j ∧ upd (M.1 49) n x3 j = upd (S.1 60) n x3 j ∧ upd (M.1 47) n (M.1 0 94) j = upd (S.1 61) n (S.1 57 7) j ∧ upd (M.1 48) n (-1) j = upd (S.1 62) n (-1) j ∧ (upd (S.1 62) n (-1) j = -1 ∨ ∃ k, k ≤ 100000 ∧ upd (S.1 62) n (-1) j = nI k) ∧ (∃ w, w ≤ 2 ∧ upd (S.1 58) n x1 j = nI w) ∧ (upd (S.1 60) n x3 j = 0 ∨ upd (S.1 60) n x3 j = 1)
              by_cases hjn : j = n
              · subst hjn
                rw [up_s, up_s, up_s, up_s, up_s, up_s, up_s, up_s, up_s, up_s, e2, e4]
                refine ⟨rfl, rfl, rfl, rfl, rfl, Or.inl rfl, ?_, hz⟩
                obtain ⟨w, hw, rfl⟩ := nI_of c1
                refine ⟨w, ?_, rfl⟩
                rcases Nat.lt_or_ge 2 w with q | q
                · exact absurd (show nI 2 < nI w from nI_lt q hw) c2
                · exact q
              · rw [up_n _ _ hjn, up_n _ _ hjn, up_n _ _ hjn, up_n _ _ hjn, up_n _ _ hjn, up_n _ _ hjn, up_n _ _ hjn, up_n _ _ hjn, up_n _ _ hjn, up_n _ _ hjn]
                exact ht j (by omega)
          · have hn : n = 30 := by omega
            subst hn
            exact ⟨_, S, M, fun K H => e_O_tug (br_f c1 (br_f c2 (br_f c3 (br_f c4 (br_f (by rw [e1]; decide) H))))), fun K H => e_M_tug (isIn_y ⟨c1, c2⟩ (br_f (by decide) (isIn_y ⟨c3, c4⟩ (br_f (by decide) (br_nt e3 H))))), hR0⟩
theorem sim_untell (hR : Rel S M) (x1 : Int32) : OKi Rel (M_O_untell hc d x1 S) (M_M_untell hm e x1 M) := by
  have hR0 := hR
  obtain ⟨nm, nd, nb, nf, hd, st, hT, hM, hW, hN, hH, hB, ⟨n, t, h1, h2, e1, e2, e3, e4, ht⟩, hL, hF, hA⟩ := hR
  have q := ixM (x := x1) e1 (e3.trans e1.symm) (by omega)
  rcases ixC x1 e1 (by omega) with c | c | ⟨j, hj, rfl, c1, c2⟩
  · exact ⟨0, S, M, fun K H => e_O_untell (e_Tg_takeBack (br_t c ⟨zb0, H⟩)), fun K H => e_M_untell (isIn_n (fun z => absurd c (q.mp z).1) (br_t rfl H)), hR0⟩
  · exact ⟨0, S, M, fun K H => e_O_untell (e_Tg_takeBack (br_f c.1 (br_t c.2 ⟨zb0, H⟩))), fun K H => e_M_untell (isIn_n (fun z => absurd c.2 (q.mp z).2) (br_t rfl H)), hR0⟩
  · have v30 : vp_in (nI j) 30 := vIn (by omega) (by omega)
    have ci : (nI j).toNatClampNeg = j := nCl (by omega)
    obtain ⟨g1, g2, g3, g4, g5, g6, g7, g8⟩ := ht j hj
    rcases g6 with g | ⟨k, hk, g⟩
    · refine OKi.mk (r := 1) (fun K H => e_O_untell (e_Tg_takeBack (br_f c1 (br_f c2 ⟨v30, br_t (by rw [ci]; exact g) ⟨v30, zb1, H⟩⟩)))) (fun K H => e_M_untell (isIn_y (q.mpr ⟨c1, c2⟩) (br_f (by decide) ⟨v30, br_t (by rw [ci, g5, g]; exact m1_lt) ⟨v30, H⟩⟩))) ?_
      rw [ci]
      refine ⟨nm, nd, nb, nf, hd, st, hT, hM, hW, hN, hH, hB, ⟨n, t, h1, h2, e1, e2, e3, e4, fun i hi => ?_⟩, hL, hF, hA⟩
      obtain ⟨f1, f2, f3, f4, f5, f6, f7, f8⟩ := ht i hi
      refine ⟨f1, f2, f3, f4, ?_, ?_, f7, f8⟩
      · show upd (M.1 48) j (M.1 0 94) i = upd (S.1 62) j (S.1 57 7) i
        by_cases hij : i = j
        · subst hij; rw [up_s, up_s, e2, e4]
        · rw [up_n _ _ hij, up_n _ _ hij]; exact f5
      · show upd (S.1 62) j (S.1 57 7) i = -1 ∨ ∃ k, k ≤ 100000 ∧ upd (S.1 62) j (S.1 57 7) i = nI k
        by_cases hij : i = j
        · subst hij; rw [up_s]; exact Or.inr ⟨t, h2, e2⟩
        · rw [up_n _ _ hij]; exact f6
    · exact ⟨0, S, M, fun K H => e_O_untell (e_Tg_takeBack (br_f c1 (br_f c2 ⟨v30, br_f (by rw [ci, g]; exact nM1 (by omega)) ⟨zb0, H⟩⟩))), fun K H => e_M_untell (isIn_y (q.mpr ⟨c1, c2⟩) (br_f (by decide) ⟨v30, br_f (by rw [ci, g5, g]; exact nN0 (by omega)) H⟩)), hR0⟩
end
