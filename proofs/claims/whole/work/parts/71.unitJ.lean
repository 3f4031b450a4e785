section
variable {hc hm : xH} {e : Nat}
def nxt (L k v : Nat) (pend : List Nat) : Prop := sgn k v = 0 ∨ tt (sgn k v) < L ∨ (tt (sgn k v) = 4 ∧ hasR pend)
theorem av_cv {k v : Nat} (h : av k v = -1) : cv k v = -1 := by
  unfold av at h
  unfold cv
  by_cases c1 : k = 3 ∧ v = 12
  · rw [if_pos c1] at h; exact absurd h (by decide)
  · rw [if_neg c1] at h ⊢
    by_cases c2 : k = 3 ∧ v = 2
    · rw [if_pos c2] at h; exact absurd h (by decide)
    · rw [if_neg c2] at h ⊢
      by_cases c3 : k = 3 ∧ v = 17
      · rw [if_pos c3] at h; exact absurd h (by decide)
      · rw [if_neg c3] at h ⊢
        by_cases c4 : k = 3 ∧ v = 16
        · rw [if_pos c4] at h; exact absurd h (by decide)
        · rw [if_neg c4]
section
variable {t : Nat → Nat} {n : Nat}
theorem unitJ {dl : Nat} (hdl : dl ≤ 7) (ihE : dl ≤ 6 → FX hm e t n 1 1 0 (dl + 1) (7 * (8 - (dl + 1))) (nxt 1) (fun d S K => M_Fr_readEither hc d (nI (dl + 1)) S K)) : FX hm e t n 7 7 7 dl (7 * (8 - dl) - 5) (nxt 7) (fun d S K => M_Fr_readUnit hc d (nI dl) S K) := by
  intro d k v l q p S M cs st u hd h hk hC hF hu hcs hl htp hnn
  have nn := hnn (by omega)
  obtain ⟨d', rfl⟩ : ∃ d', d = d' + 1 := ⟨d - 1, by omega⟩
  have hl1 : st.length ≤ 100 := by omega
  have n7 : ∀ k v pend, nxt 7 k v pend := fun k v pend => Or.inr (Or.inl (by have := tt_b (sgn k v); omega))
  by_cases f : u = 30
  · have no : (k = 5 ∧ v = 40 ∧ (u = 30 ∨ 6 < dl)) ∨ (¬ (k = 5 ∧ v = 40) ∧ (u = 30 ∨ (k ≠ 4 ∧ av k v = -1))) := by
      by_cases y : k = 5 ∧ v = 40
      · exact Or.inl ⟨y.1, y.2, Or.inl f⟩
      · exact Or.inr ⟨y, Or.inl f⟩
    obtain ⟨S', M', r1, r2, r3, r4, r5⟩ := unitF (hm := hm) (e := e) h hF hu hl1 (by omega) no
    refine Or.inr ⟨S', M', fun K H => e_Fr_readUnit (br_f ?_ (r1 _ _ _ ⟨zb0, H⟩)), fun K H K2 g => uNN h hF (by omega) nn (r2 K K2 g H), r3.g, r4, r5⟩
    rw [hC.2.2, f]; decide
  · have hq1 : QJ t n k v l q p (x_putI S 34 3 (nI (u + 1))) M := h.fr rfl rfl rfl rfl rfl (fun _ _ _ => rfl) rfl
    have preC : ∀ K, (((if k = 5 ∧ v = 40 then (1 : Int32) else 0) = 0 → ((¬ (x_putI S 34 3 (nI (u + 1))).1 19 4 = 4 → M_Fr_inputSign hc (d' + 12) (x_putI S 34 3 (nI (u + 1))) (fun (r2) (S2) => B_Fr_readUnit_81 hc d' r2 S2 K)) ∧ ((x_putI S 34 3 (nI (u + 1))).1 19 4 = 4 → B_Fr_readUnit_81 hc d' ((1000) + ((x_putI S 34 3 (nI (u + 1))).1 19 5)) (x_putI S 34 3 (nI (u + 1))) K))) ∧ (¬ (if k = 5 ∧ v = 40 then (1 : Int32) else 0) = 0 → M_Fr_readBracket hc d' (nI dl) (x_putI S 34 3 (nI (u + 1))) (fun (r3) (S3) => (zb r3 ∧ K r3 S3)))) → M_Fr_readUnit hc (d' + 1) (nI dl) S K := by
      intro K H
      refine e_Fr_readUnit ?_
      rw [hC.2.2, nI_1]
      exact br_t ((nLt (b := 30) (by omega) (by omega)).mpr (by omega)) (signC (w := 40) hq1 (by decide) H)
    by_cases y : k = 5 ∧ v = 40
    · rw [if_pos y] at preC
      obtain ⟨d2, rfl⟩ : ∃ d2, d' = d2 + 1 := ⟨d' - 1, by omega⟩
      by_cases z : dl ≤ 6
      · -- a bracket
        have f0 := h.2.f0
        have qp := (h.1.2.2.2.2.2.2 (by omega)).2.2.1
        have s40 := (tk_sign h.1.2.2.2.2.2.1 (w := 40) (by decide)).2
        have F2 : FM cs (20 :: st) (dl + 1) (u + 1) (x_putI (x_putI (x_putI (x_putI (x_putI M 0 20 (nI (u + 1))) 0 22 (nI (u + 1))) 7 st.length 20) 0 19 (nI (st.length + 1))) 0 23 (nI (dl + 1))) := by
          obtain ⟨g1, g2, g3, g4, g5, g6, g7, g8⟩ := hF
          refine ⟨?_, g2, ?_, ?_, ?_, ⟨?_, ?_⟩, ?_, fun x hx => ?_⟩
          · rw [gI_same, up_n _ _ (by decide), gI_same, up_n _ _ (by decide), gI_ne _ _ _ (by decide), gI_same, up_n _ _ (by decide), gI_same, up_n _ _ (by decide)]; exact g1
          · rw [gI_same, up_n _ _ (by decide), gI_same, up_n _ _ (by decide), gI_ne _ _ _ (by decide), gI_same, up_n _ _ (by decide), gI_same, up_s]
          · rw [gI_same, up_n _ _ (by decide), gI_same, up_n _ _ (by decide), gI_ne _ _ _ (by decide), gI_same, up_s]
          · rw [gI_same, up_n _ _ (by decide), gI_same, up_s]; simp
          · rw [gI_ne _ _ _ (by decide), gI_ne _ _ _ (by decide), gI_same, up_s]; rfl
          · rw [gI_ne _ _ _ (by decide), gI_ne _ _ _ (by decide), gI_same]; exact stk_up g6 (Nat.le_refl _)
          · rw [gI_same, up_s]
          · rcases List.mem_cons.mp hx with w | w
            · exact Or.inl w
            · exact g8 x w
        have z2 : ZM M (x_putI (x_putI (x_putI (x_putI (x_putI M 0 20 (nI (u + 1))) 0 22 (nI (u + 1))) 7 st.length 20) 0 19 (nI (st.length + 1))) 0 23 (nI (dl + 1))) := ((((ZM.p0 (by decide)).tr (ZM.p0 (by decide))).tr (ZM.p (by omega))).tr (ZM.p0 (by decide))).tr (ZM.p0 (by decide))
        obtain ⟨S3, M3, k3, v3, l3, q3, p3, c1, c2, c3, c4, c5, c6, c7⟩ := advJ (hc := hc) (d := d2 + 3) (hm := hm) (e := e) (hq1.zm z2) (by omega)
        have preM : ∀ K, UJ hm e M3 K → UJ hm e M K := by
          intro K H K2 g
          refine uNN h hF (by omega) nn (b_M_unit_53 (br_nt (s40.mpr y) (fullM hF hu ?_)))
          rw [if_neg f]
          refine br_nt rfl (br_t ?_ (b_M_unit_83 (e_M_countUnit (e_M_openUp ?_))))
          · rw [hF.2.2.2.2.2.2.1]; exact (nLe (b := 6) (by omega) (by omega)).mpr z
          · rw [hF.2.2.1, hF.2.2.2.1, nI_1]
            have e19 : (x_putI (x_putI M 0 20 (nI (u + 1))) 0 22 (nI (u + 1))).1 0 19 = nI st.length := by rw [gI_same, up_n _ _ (by decide), gI_same, up_n _ _ (by decide)]; exact hF.2.2.2.2.1
            have e23 : (x_putI (x_putI M 0 20 (nI (u + 1))) 0 22 (nI (u + 1))).1 0 23 = nI dl := by rw [gI_same, up_n _ _ (by decide), gI_same, up_n _ _ (by decide)]; exact hF.2.2.2.2.2.2.1
            have e2 : (x_putI (x_putI M 0 20 (nI (u + 1))) 0 22 (nI (u + 1))).1 0 2 = 0 := by rw [gI_same, up_n _ _ (by decide), gI_same, up_n _ _ (by decide)]; exact f0.2
            rw [e19, e23, nCl (by omega), nI_1, nI_1]
            exact ⟨vIn (by omega) (by omega), br_nt e2 (c2 _ (H K2 g))⟩
        have preC2 : ∀ K, M_Fr_readEither hc d2 (nI (dl + 1)) S3 (fun (r2) (S2) => ((r2 = 0 → (zb 0 ∧ K 0 S2)) ∧ (¬ r2 = 0 → M_Tk_takesSign hc (d2 + 2) 41 S2 (fun (r3) (S3) => ((r3 = 0 → (zb 0 ∧ K 0 S3)) ∧ (¬ r3 = 0 → (zb 1 ∧ K 1 S3))))))) → M_Fr_readUnit hc (d2 + 1 + 1) (nI dl) S K := by
          intro K H
          refine preC K (br_f (by decide) (e_Fr_readBracket (br_t ((nLe (b := 6) (by omega) (by omega)).mpr z) (c1 _ ?_))))
          rw [nI_1]; exact H
        have C3 : FC cs (u + 1) S3 := (hC.p (u' := u + 1)).t c3
        have gc3 : GC S S3 := GC.p.tr c3.g
        have gm3 : GM M M3 := z2.g.tr c4.g
        rcases ihE z d2 k3 v3 l3 q3 p3 S3 M3 cs (20 :: st) (u + 1) (by omega) c5 c7 C3 (F2.t c4) (by omega) (by omega) (by simp; omega) (fun o s' he => Or.inl (by injection he with a b; exact a.symm)) (fun z => absurd z (by omega)) with ⟨S4, M4, k4, v4, pend, u4, x1, x2, x3, x4, ⟨l4, q4, p4, w, os, y1, y2, y3, y4, y5, y6, y7, y8, y9, y10, y11, y12, y13⟩, x6⟩ | ⟨S4, M4, x1, x2, x3, x4, x5⟩
        · have f4 := y1.2.f0
          have s41 := tk_sign y1.1.2.2.2.2.2.1 (w := 41) (by decide)
          have hlp : (pend ++ 20 :: st).length ≤ 100 := by omega
          have hin : 20 ∈ pend ++ 20 :: st := by simp
          have hco : (cs ++ w).length = os.length + pend.length := by rw [y6]; simp
          have hcw : (cs ++ w).length = cs.length + w.length := by simp
          have hb4 : ∀ K : Int32 → xSt → Prop, K 1 M4 → M_M_hasBracket hm (e + 3) M4 K := fun K H => brkM (st := pend ++ 20 :: st) (by omega) y5.2.2.2.2.1 y5.2.2.2.2.2.1 y5.2.2.2.2.2.2.2 (by rw [if_pos hin]; exact H)
          by_cases cl : k4 = 5 ∧ v4 = 41
          · obtain ⟨M5, a1, a2, a3⟩ := closeM (hm := hm) (e := e + 2) (r := 0) (u := u4) (by omega) (s := 20 :: st) (fun o s' he => Or.inl (by injection he with a b; exact a.symm)) pend os (dl + 1) M4 y5 (fun o ho => ⟨(y11 o ho).1, by omega⟩) (by omega) (by omega) (by omega)
            obtain ⟨g1, g2, g3, g4, g5, g6, g7, g8⟩ := a2
            have e5 : x_putI (x_putI M5 0 19 (M5.1 0 19 - 1)) 0 23 (M5.1 0 23 - 1) = x_putI (x_putI M5 0 19 (nI st.length)) 0 23 (nI dl) := by rw [g5, g7, List.length_cons, nI_pred, nI_pred]
            have F6 : FM (cs ++ w) st dl u4 (x_putI (x_putI M5 0 19 (nI st.length)) 0 23 (nI dl)) := by
              rw [y6]
              exact ⟨by rw [gI_same, up_n _ _ (by decide), gI_same, up_n _ _ (by decide)]; exact g1, g2, by rw [gI_same, up_n _ _ (by decide), gI_same, up_n _ _ (by decide)]; exact g3, by rw [gI_same, up_n _ _ (by decide), gI_same, up_n _ _ (by decide)]; exact g4, by rw [gI_same, up_n _ _ (by decide), gI_same, up_s], g6.2, by rw [gI_same, up_s], fun x hx => g8 x (List.mem_cons_of_mem _ hx)⟩
            have z6 : ZM M4 (x_putI (x_putI M5 0 19 (nI st.length)) 0 23 (nI dl)) := a3.tr ((ZM.p0 (by decide)).tr (ZM.p0 (by decide)))
            have qp4 := (y1.1.2.2.2.2.2.2 (by omega)).2.2.1
            obtain ⟨S6, M6, k6, v6, l6, q6, p6, u1, u2, u3, u4', u5, u6, u7⟩ := advJ (hc := hc) (d := d2 + 2) (hm := hm) (e := e + 2) (y1.zm z6) (by omega)
            refine Or.inl ⟨S6, M6, k6, v6, [], u4, fun K H => preC2 K (x1 _ (br_f (by decide) (e_Tk_takesSign (signC (w := 41) y1 (by decide) ?_)))), fun K H => preM K (x2 K ?_), gc3.tr (x3.tr u3.g), gm3.tr (x4.tr (z6.g.tr u4'.g)), ⟨l6, q6, p6, w, cs ++ w, u5, by omega, u7, y4.t u3, ?_, by simp, by omega, y8, by omega, ?_, fun o ho => absurd ho (by simp), ?_, fun a ha => y13 a (by omega)⟩, n7 _ _ _⟩
            · rw [if_pos cl]
              exact br_nf (by decide) (u1 _ (br_f (by decide) ⟨zb1, H⟩))
            · refine b_M_readWear_30 (br_f (by decide) (br_nt f4.2 (signM y1 (br_nt (s41.2.mpr cl) (hb4 _ ?_)))))
              refine br_f (by decide) (e_M_close (a1 _ ?_))
              show M_M_token hm (e + 2) (x_putI (x_putI M5 0 19 (M5.1 0 19 - 1)) 0 23 (M5.1 0 23 - 1)) _
              rw [e5]
              exact u2 _ (b_M_readWear_154 H)
            · have := F6.t u4'
              simpa [nots] using this
            · simp [nots]; omega
            · simp [nots]; omega
          · obtain ⟨S5, M5, r1, r2, r3, r4, r5, -⟩ := refJ y1 (f := 2) (by omega) (by omega)
            refine Or.inr ⟨S5, M5, fun K H => preC2 K (x1 _ (br_f (by decide) (e_Tk_takesSign (signC (w := 41) y1 (by decide) ?_)))), fun K H => preM K (x2 K (exitJ y1 y5 (by omega) (Or.inl cl) ?_ (b_M_readWear_157 (br_nt f4.2 (hb4 _ ?_))))), gc3.tr (x3.tr r3.g), gm3.tr (x4.tr r4.g), r5⟩
            · rw [if_neg cl]
              exact br_nt rfl (r1 _ _ _ ⟨zb0, br_t rfl ⟨zb0, H⟩⟩)
            · rcases x6 with x6 | x6 | x6
              · exact Or.inl x6
              · have := tt_b (sgn k4 v4); omega
              · exact Or.inr ⟨x6.1, hasR_app x6.2⟩
            · exact br_f (by decide) (r2 _ _ _ (b_M_readWear_176 (br_nf r5.bad.2 H)))
        · exact Or.inr ⟨S4, M4, fun K H => preC2 K (x1 _ (br_t rfl ⟨zb0, H⟩)), fun K H => preM K (x2 K H), gc3.tr x3, gm3.tr x4, x5⟩
      · obtain ⟨S', M', r1, r2, r3, r4, r5⟩ := unitF (hm := hm) (e := e) hq1 hF hu hl1 (by omega) (Or.inl ⟨y.1, y.2, Or.inr (by omega)⟩)
        exact Or.inr ⟨S', M', fun K H => preC K (br_f (by decide) (e_Fr_readBracket (br_f (fun w => z ((nLe (b := 6) (by omega) (by omega)).mp w)) (r1 _ _ _ ⟨zb0, ⟨zb0, H⟩⟩)))), fun K H K2 g => uNN h hF (by omega) nn (r2 K K2 g H), GC.p.tr r3.g, r4, r5⟩
    · rw [if_neg y] at preC
      by_cases op : k = 4 ∨ av k v ≠ -1
      · obtain ⟨S', M', k', v', r1, r2, r3, r4, r5⟩ := unitO (hc := hc) (hm := hm) (e := e) (d := d') h hC hF (by omega) hcs hl hdl y op
        exact Or.inl ⟨S', M', k', v', [], u + 1, fun K H => preC K (br_t rfl (r1 K H)), fun K H K2 g => uNN h hF (by omega) nn (r2 K K2 g H), r3, r4, r5, n7 _ _ _⟩
      · have n4 : k ≠ 4 := fun z => op (Or.inl z)
        have na : av k v = -1 := Decidable.byContradiction (fun z => op (Or.inr z))
        obtain ⟨S', M', r1, r2, r3, r4, r5⟩ := unitF (hm := hm) (e := e) hq1 hF hu hl1 (by omega) (Or.inr ⟨y, Or.inr ⟨n4, na⟩⟩)
        obtain ⟨t1, -, -⟩ := tk_num h.1.2.2.2.2.2.1
        refine Or.inr ⟨S', M', fun K H => preC K (br_t rfl (br_nf (fun z => n4 (t1.mp z)) (inC hq1 ?_))), fun K H K2 g => uNN h hF (by omega) nn (r2 K K2 g H), GC.p.tr r3.g, r4, r5⟩
        rw [av_cv na]
        exact b_Fr_readUnit_81 (br_nt rfl (r1 _ _ _ ⟨zb0, H⟩))
end
end
