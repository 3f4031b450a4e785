section
variable {hc hm : xH} {e : Nat}
section
variable {t : Nat → Nat} {n : Nat}
theorem hasR_mk {o : Nat} (ho : okp o) (h4 : tt o = 4) : ∀ p : List Nat, (∀ x, x ∈ p → okp x ∧ 5 ≤ tt x) → hasR (p ++ [o]) := by
  intro p
  induction p with
  | nil => intro _; exact ⟨ho, Or.inl h4⟩
  | cons a p ih => intro h; exact ⟨(h a (by simp)).1, Or.inr ⟨by have := (h a (by simp)).2; omega, ih (fun x hx => h x (by simp [hx]))⟩⟩
theorem FXm {Lp L sl dl need need' : Nat} {nx : Nat → Nat → List Nat → Prop} {P : Nat → xSt → (Int32 → xSt → Prop) → Prop} (h : FX hm e t n Lp L sl dl need nx P) (hn : need ≤ need') : FX hm e t n Lp L sl dl need' nx P := fun d k v l q p S M cs st u hd => h d k v l q p S M cs st u (by omega)
theorem oneJ {dl : Nat} (hdl : dl ≤ 7) (ihO : dl ≤ 6 → FX hm e t n 4 3 (dl + 1) (dl + 1) (7 * (8 - (dl + 1)) - 2) (nxt 3) (fun d S K => M_Fr_readOne hc d (nI (dl + 1)) S K)) (hS : FX hm e t n 5 5 7 dl (7 * (8 - dl) - 3) (nxt 5) (fun d S K => M_Fr_readSum hc d (nI dl) S K)) : FX hm e t n 4 3 dl dl (7 * (8 - dl) - 2) (nxt 3) (fun d S K => M_Fr_readOne hc d (nI dl) S K) := by
  intro d k v l q p S M cs st u hd h hk hC hF hu hcs hl htp hN
  obtain ⟨d', rfl⟩ : ∃ d', d = d' + 1 := ⟨d - 1, by omega⟩
  have f0 := h.2.f0
  by_cases y : k = 3 ∧ v = 21
  · have preC : ∀ K : Int32 → xSt → Prop, M_Fr_readNot hc d' (nI dl) S (fun r6 S6 => zb r6 ∧ K r6 S6) → M_Fr_readOne hc (d' + 1) (nI dl) S K := by
      intro K H
      refine e_Fr_readOne (wordC (w := 21) h (by omega) ?_)
      rw [if_pos y]; exact br_f (by decide) H
    have preM : ∀ K2 : xSt → Prop, (((M.1 0 23) ≤ 6 → B_M_unit_44 hm e 1 M K2) ∧ (¬ (M.1 0 23) ≤ 6 → M_M_wrong hm (e + 2) 2 M (fun (S3) => B_M_unit_44 hm e 1 S3 K2))) → B_M_unit_2 hm e 1 M K2 := by
      intro K2 H
      refine b_M_unit_2 (br_f (by decide) (br_nt f0.2 (wordM (w := 21) h (by omega) kc21 ?_)))
      rw [if_pos y]
      exact br_f (by decide) (mayN1 htp (by omega) hF.2.2.2.2.1 hF.2.2.2.2.2.1 (br_f (by decide) H))
    obtain ⟨d2, rfl⟩ : ∃ d2, d' = d2 + 1 := ⟨d' - 1, by omega⟩
    have e23 := hF.2.2.2.2.2.2.1
    have e19 := hF.2.2.2.2.1
    by_cases z : dl ≤ 6
    · have qp := (h.1.2.2.2.2.2.2 (by omega)).2.2.1
      have F2 : FM cs (21 :: st) (dl + 1) u (x_putI (x_putI (x_putI M 7 st.length 21) 0 19 (nI (st.length + 1))) 0 23 (nI (dl + 1))) := by
        obtain ⟨g1, g2, g3, g4, g5, g6, g7, g8⟩ := hF
        refine ⟨?_, g2, ?_, ?_, ?_, ⟨?_, ?_⟩, ?_, fun x hx => ?_⟩
        · rw [gI_same, up_n _ _ (by decide), gI_same, up_n _ _ (by decide), gI_ne _ _ _ (by decide)]; exact g1
        · rw [gI_same, up_n _ _ (by decide), gI_same, up_n _ _ (by decide), gI_ne _ _ _ (by decide)]; exact g3
        · rw [gI_same, up_n _ _ (by decide), gI_same, up_n _ _ (by decide), gI_ne _ _ _ (by decide)]; exact g4
        · rw [gI_same, up_n _ _ (by decide), gI_same, up_s]; simp
        · rw [gI_ne _ _ _ (by decide), gI_ne _ _ _ (by decide), gI_same, up_s]; rfl
        · rw [gI_ne _ _ _ (by decide), gI_ne _ _ _ (by decide), gI_same]; exact stk_up g6 (Nat.le_refl _)
        · rw [gI_same, up_s]
        · rcases List.mem_cons.mp hx with w | w
          · exact Or.inr (Or.inl w)
          · exact g8 x w
      have z2 : ZM M (x_putI (x_putI (x_putI M 7 st.length 21) 0 19 (nI (st.length + 1))) 0 23 (nI (dl + 1))) := ((ZM.p (by omega)).tr (ZM.p0 (by decide))).tr (ZM.p0 (by decide))
      obtain ⟨S3, M3, k3, v3, l3, q3, p3, c1, c2, c3, c4, c5, c6, c7⟩ := advJ (hc := hc) (d := d2 + 3) (hm := hm) (e := e) (h.zm z2) (by omega)
      have preC2 : ∀ K, M_Fr_readOne hc d2 (nI (dl + 1)) S3 (fun (r2) (S2) => ((¬ r2 = 0 → M_Wr_put_34 hc (d2 + 12) 33 S2 (fun (S3) => (zb 1 ∧ K 1 S3))) ∧ (r2 = 0 → (zb 0 ∧ K 0 S2)))) → M_Fr_readOne hc (d2 + 1 + 1) (nI dl) S K := by
        intro K H
        refine preC K (e_Fr_readNot (br_t ((nLe (b := 6) (by omega) (by omega)).mpr z) (c1 _ ?_)))
        rw [nI_1]; exact H
      have preM2 : ∀ K, UJ hm e M3 K → UJ hm e M K := by
        intro K H K2 g
        refine preM K2 (br_t (by rw [e23]; exact (nLe (b := 6) (by omega) (by omega)).mpr z) (b_M_unit_44 (e_M_openUp ?_)))
        rw [e19, e23, nCl (by omega), nI_1, nI_1]
        exact ⟨vIn (by omega) (by omega), br_nt f0.2 (c2 _ (H K2 g))⟩
      have gm3 : GM M M3 := z2.g.tr c4.g
      rcases ihO z d2 k3 v3 l3 q3 p3 S3 M3 cs (21 :: st) u (by omega) c5 c7 (hC.t c3) (F2.t c4) hu hcs (by simp; omega) (fun o s' he => Or.inr (by injection he with g1 g2; rw [← g1]; exact ⟨Or.inl rfl, by decide⟩)) (fun z => absurd z (by omega)) with ⟨S4, M4, k4, v4, pend, u4, x1, x2, x3, x4, ⟨l4, q4, p4, w, os, y1, y2, y3, y4, y5, y6, y7, y8, y9, y10, y11, y12, y13⟩, x6⟩ | ⟨S4, M4, x1, x2, x3, x4, x5⟩
      · have hcw : (cs ++ w).length = cs.length + w.length := by simp
        obtain ⟨S5, e1, e2, e3, e4, e5, e6⟩ := putC (c := 33) y4 (by omega)
        have hl1 : pend ++ 21 :: st = (pend ++ [21]) ++ st := by simp
        have hn1 : nots (pend ++ [21]) = nots pend + 1 := by rw [nots_app]; simp [nots]
        refine Or.inl ⟨S5, M4, k4, v4, pend ++ [21], u4, fun K H => preC2 K (x1 _ (br_nf (by decide) (e1 _ _ _ ⟨zb1, H⟩))), fun K H => preM2 K (x2 K H), c3.g.tr (x3.tr e3), gm3.tr x4, ⟨l4, q4, p4, w ++ [33], os, y1.fr e5 e4 (by rw [e6]) (by rw [e6]) rfl (fun _ _ _ => rfl) rfl, by omega, y3, ?_, ?_, ?_, y7, y8, ?_, ?_, fun o ho => ?_, ?_, fun a ha => ?_⟩, ?_⟩
        · rw [← List.append_assoc]; exact e2
        · rw [← hl1, hn1, show dl + (nots pend + 1) = dl + 1 + nots pend by omega]; exact y5
        · rw [← List.append_assoc, y6]; simp [cod]
        · simp; omega
        · rw [← hl1, hn1]; omega
        · rcases List.mem_append.mp ho with ho | ho
          · exact y11 o ho
          · have : o = 21 := by simpa using ho
            rw [this]; exact ⟨Or.inl rfl, by decide⟩
        · rw [hn1]; omega
        · refine wf_app (y13 a ha) ?_
          simp only [wf]
          exact Or.inr (Or.inl ⟨trivial, by omega, trivial⟩)
        · rcases x6 with x6 | x6 | x6
          · exact Or.inl x6
          · exact Or.inr (Or.inl x6)
          · exact Or.inr (Or.inr ⟨x6.1, hasR_app x6.2⟩)
      · exact Or.inr ⟨S4, M4, fun K H => preC2 K (x1 _ (br_nt rfl ⟨zb0, H⟩)), fun K H => preM2 K (x2 K H), c3.g.tr x3, gm3.tr x4, x5⟩
    · obtain ⟨S', M1, r1, r2, r3, r4, r5, -⟩ := refJ h (f := 2) (by omega) (by omega)
      have e19' : M1.1 0 19 = nI st.length := by rw [r4.2.2 19 (by decide)]; exact e19
      have z1 : ZM M1 (x_putI (x_putI (x_putI M1 7 st.length 21) 0 19 (nI st.length + 1)) 0 23 (M1.1 0 23 + 1)) := ((ZM.p (by omega)).tr (ZM.p0 (by decide))).tr (ZM.p0 (by decide))
      refine Or.inr ⟨S', _, fun K H => preC K (e_Fr_readNot (br_f (fun w => z ((nLe (b := 6) (by omega) (by omega)).mp w)) (r1 _ _ _ ⟨zb0, ⟨zb0, H⟩⟩))), fun K H K2 g => preM K2 (br_f (fun w => z ((nLe (b := 6) (by omega) (by omega)).mp (by rw [e23] at w; exact w))) (r2 _ _ _ (b_M_unit_44 (e_M_openUp ?_)))), r3.g, r4.g.tr z1.g, r5.g z1 rfl⟩
      rw [e19', nCl (by omega)]
      exact ⟨vIn (by omega) (by omega), br_nf r5.bad.2 (ufault (r5.bad.g z1) g H)⟩
  · have preC : ∀ K : Int32 → xSt → Prop, M_Fr_readSum hc d' (nI dl) S (fun (r2) (S2) => ((¬ r2 = 0 → M_Tk_isSign hc (d' + 12) 60 S2 (fun (r3) (S3) => ((¬ r3 = 0 → B_Fr_readOne_66 hc d' (nI dl) S3 K) ∧ (r3 = 0 → M_Tk_isSign hc (d' + 12) 62 S3 (fun (r4) (S4) => ((¬ r4 = 0 → B_Fr_readOne_66 hc d' (nI dl) S4 K) ∧ (r4 = 0 → M_Tk_isSign hc (d' + 12) 61 S4 (fun (r5) (S5) => ((¬ r5 = 0 → B_Fr_readOne_66 hc d' (nI dl) S5 K) ∧ (r5 = 0 → K 1 S5)))))))))) ∧ (r2 = 0 → K 0 S2))) → M_Fr_readOne hc (d' + 1) (nI dl) S K := by
      intro K H
      refine e_Fr_readOne (wordC (w := 21) h (by omega) ?_)
      rw [if_neg y]; exact br_t rfl H
    rcases hS d' k v l q p S M cs st u (by omega) h hk hC hF hu hcs hl (htp.w (by omega)) (fun _ => Or.inl y) with ⟨S1, M1, k1, v1, pend, u1, a1, a2, a3, a4, a5, a6⟩ | ⟨S1, M1, a1, a2, a3, a4, a5⟩
    · obtain ⟨l1, q1, p1, w, os, y1, y2, y3, y4, y5, y6, y7, y8, y9, y10, y11, y12, y13⟩ := a5
      by_cases c : sgn k1 v1 ≠ 0 ∧ tt (sgn k1 v1) = 4
      · have so := (sgn_s c.1).1
        have ok : okp (sgn k1 v1) := Or.inr so
        have sob := opL_b _ so
        have hco : (cs ++ w).length = os.length + pend.length := by rw [y6]; simp
        have hcw : (cs ++ w).length = cs.length + w.length := by simp
        obtain ⟨k5, hv⟩ := sg4.mp c
        have val := valC y1 c.1 k5 (by rcases hv with rfl | rfl | rfl <;> decide)
        obtain ⟨S2, M2, k2, v2, l2, q2, p2, b1, b2, b3, b4, b5, b6, b7, b8⟩ := pushJ (hc := hc) (d := d' + 3) (hm := hm) (e := e) y1 rfl c.1 c.2 y5 (fun o ho => ⟨(y11 o ho).1, by have := (y11 o ho).2; omega⟩) (fun _ o ho => (y11 o ho).2) htp (by omega) (by omega) (by omega)
        rw [← y6] at b8
        have preC2 : ∀ K : Int32 → xSt → Prop, M_Fr_readSum hc d' (nI dl) S2 (fun (r2) (S2) => ((¬ r2 = 0 → M_Wr_put_34 hc (d' + 12) (nI (sgn k1 v1)) S2 (fun (S3) => K 1 S3)) ∧ (r2 = 0 → K 0 S2))) → M_Fr_readOne hc (d' + 1) (nI dl) S K := by
          intro K H
          have B : B_Fr_readOne_66 hc d' (nI dl) S1 K := by
            refine b_Fr_readOne_66 ?_
            rw [val]; exact b1 _ H
          refine preC K (a1 _ (br_nf (by decide) (signC (w := 60) y1 (by decide) ?_)))
          by_cases g1 : k1 = 5 ∧ v1 = 60
          · rw [if_pos g1]; exact br_nf (by decide) B
          · rw [if_neg g1]
            refine br_nt rfl (signC (w := 62) y1 (by decide) ?_)
            by_cases g2 : k1 = 5 ∧ v1 = 62
            · rw [if_pos g2]; exact br_nf (by decide) B
            · rw [if_neg g2]
              refine br_nt rfl (signC (w := 61) y1 (by decide) ?_)
              rw [if_pos (by omega)]
              exact br_nf (by decide) B
        rcases hS d' k2 v2 l2 q2 p2 S2 M2 (cs ++ w) (sgn k1 v1 :: st) u1 (by omega) b5 b7 (y4.t b3) b8 y8 (by omega) (by simp; omega) (fun o s' he => Or.inr (by injection he with g1 g2; rw [← g1]; exact ⟨ok, by omega⟩)) (fun _ => Or.inr ⟨_, _, rfl, ok, by omega⟩) with ⟨S3, M3, k3, v3, pend2, u2, x1, x2, x3, x4, ⟨l3, q3, p3, w2, os2, z1, z2, z3, z4, z5, z6, z7, z8, z9, z10, z11, z12, z13⟩, x6⟩ | ⟨S3, M3, x1, x2, x3, x4, x5⟩
        · have hcw2 : ((cs ++ w) ++ w2).length = cs.length + w.length + w2.length := by simp; omega
          obtain ⟨S5, e1, e2, e3, e4, e5, e6⟩ := putC (c := sgn k1 v1) z4 (by omega)
          have hl1 : pend2 ++ sgn k1 v1 :: st = (pend2 ++ [sgn k1 v1]) ++ st := by simp
          have hn1 : nots (pend2 ++ [sgn k1 v1]) = nots pend2 := by rw [nots_app]; simp only [nots, if_neg sob.2.1]; omega
          refine Or.inl ⟨S5, M3, k3, v3, pend2 ++ [sgn k1 v1], u2, fun K H => preC2 K (x1 _ (br_nf (by decide) (e1 _ _ _ H))), fun K H => a2 K (b2 K (x2 K H)), a3.tr (b3.g.tr (x3.tr e3)), a4.tr (b4.tr x4), ⟨l3, q3, p3, w ++ w2 ++ [sgn k1 v1], os2, z1.fr e5 e4 (by rw [e6]) (by rw [e6]) rfl (fun _ _ _ => rfl) rfl, by omega, z3, ?_, ?_, ?_, by omega, z8, ?_, ?_, fun o ho => ?_, ?_, fun a ha => ?_⟩, ?_⟩
          · have : cs ++ (w ++ w2 ++ [sgn k1 v1]) = (cs ++ w) ++ w2 ++ [sgn k1 v1] := by simp
            rw [this]; exact e2
          · rw [← hl1, hn1]; exact z5
          · have : cs ++ (w ++ w2 ++ [sgn k1 v1]) = ((cs ++ w) ++ w2) ++ [sgn k1 v1] := by simp
            rw [this, z6]; simp [(opC _ so).2]
          · simp; omega
          · rw [← hl1, hn1]; exact z10
          · rcases List.mem_append.mp ho with ho | ho
            · exact ⟨(z11 o ho).1, by have := (z11 o ho).2; omega⟩
            · have : o = sgn k1 v1 := by simpa using ho
              rw [this]; exact ⟨ok, by omega⟩
          · rw [hn1]; exact z12
          · refine wf_app (wf_app (y13 a (by omega)) (z13 (a + 1) (by omega))) ?_
            simp only [wf]
            exact Or.inr (Or.inr ⟨so, by omega, by omega⟩)
          · rcases x6 with x6 | x6 | x6
            · exact Or.inl x6
            · by_cases s0 : sgn k3 v3 = 0
              · exact Or.inl s0
              · by_cases s4 : tt (sgn k3 v3) = 4
                · exact Or.inr (Or.inr ⟨s4, hasR_mk ok c.2 pend2 z11⟩)
                · have := sg3 s0
                  exact Or.inr (Or.inl (by omega))
            · exact Or.inr (Or.inr ⟨x6.1, hasR_app x6.2⟩)
        · exact Or.inr ⟨S3, M3, fun K H => preC2 K (x1 _ (br_nt rfl H)), fun K H => a2 K (b2 K (x2 K H)), a3.tr (b3.g.tr x3), a4.tr (b4.tr x4), x5⟩
      · have n4 := fun z => c (sg4.mpr z)
        refine Or.inl ⟨S1, M1, k1, v1, pend, u1, fun K H => preC K (a1 _ (br_nf (by decide) (signC (w := 60) y1 (by decide) ?_))), a2, a3, a4, ⟨l1, q1, p1, w, os, y1, y2, y3, y4, y5, y6, y7, y8, by omega, y10, fun o ho => ⟨(y11 o ho).1, by have := (y11 o ho).2; omega⟩, y12, y13⟩, ?_⟩
        · rw [if_neg (fun z => n4 ⟨z.1, Or.inl z.2⟩)]
          refine br_nt rfl (signC (w := 62) y1 (by decide) ?_)
          rw [if_neg (fun z => n4 ⟨z.1, Or.inr (Or.inl z.2)⟩)]
          refine br_nt rfl (signC (w := 61) y1 (by decide) ?_)
          rw [if_neg (fun z => n4 ⟨z.1, Or.inr (Or.inr z.2)⟩)]
          exact br_nt rfl H
        · by_cases s0 : sgn k1 v1 = 0
          · exact Or.inl s0
          · have s3 := sg3 s0
            have s4 : tt (sgn k1 v1) ≠ 4 := fun z => c ⟨s0, z⟩
            rcases a6 with a6 | a6 | a6
            · exact Or.inl a6
            · exact Or.inr (Or.inl (by omega))
            · exact absurd a6.1 s4
    · exact Or.inr ⟨S1, M1, fun K H => preC K (a1 _ (br_nt rfl H)), a2, a3, a4, a5⟩
theorem formJ : ∀ m dl, dl + m = 7 → FX hm e t n 4 3 dl dl (7 * (8 - dl) - 2) (nxt 3) (fun d S K => M_Fr_readOne hc d (nI dl) S K) ∧ FX hm e t n 1 1 0 dl (7 * (8 - dl)) (nxt 1) (fun d S K => M_Fr_readEither hc d (nI dl) S K) := by
  have go : ∀ dl, dl ≤ 7 → (dl ≤ 6 → FX hm e t n 4 3 (dl + 1) (dl + 1) (7 * (8 - (dl + 1)) - 2) (nxt 3) (fun d S K => M_Fr_readOne hc d (nI (dl + 1)) S K) ∧ FX hm e t n 1 1 0 (dl + 1) (7 * (8 - (dl + 1))) (nxt 1) (fun d S K => M_Fr_readEither hc d (nI (dl + 1)) S K)) → FX hm e t n 4 3 dl dl (7 * (8 - dl) - 2) (nxt 3) (fun d S K => M_Fr_readOne hc d (nI dl) S K) ∧ FX hm e t n 1 1 0 dl (7 * (8 - dl)) (nxt 1) (fun d S K => M_Fr_readEither hc d (nI dl) S K) := by
    intro dl hdl ih
    have hU := unitJ (hc := hc) (hm := hm) (e := e) (t := t) (n := n) hdl (fun z => (ih z).2)
    have hS := FXm (need' := 7 * (8 - dl) - 3) (sumJ hdl (termJ hdl hU)) (by omega)
    have hO := oneJ hdl (fun z => (ih z).1) hS
    exact ⟨hO, FXm (eitherJ hdl (bothJ hdl hO)) (by omega)⟩
  intro m
  induction m with
  | zero => intro dl h; exact go dl (by omega) (fun z => absurd z (by omega))
  | succ m ih => intro dl h; exact go dl (by omega) (fun _ => ih (dl + 1) (by omega))
end
end
