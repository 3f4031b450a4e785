section
variable {hc hm : xH} {e : Nat}
section
variable {t : Nat → Nat} {n : Nat}
/-- X = Y, then signs of tightness r with Y's -/
theorem loopJ {r Lp2 sl2 sl dl need : Nat} {P : Nat → xSt → (Int32 → xSt → Prop) → Prop} {B : Nat → xSt → (Int32 → xSt → Prop) → Prop} (dd : Nat) (hdl : dl ≤ 7) (hr : 1 ≤ r) (hr4 : r ≠ 4) (hr3 : r ≠ 3) (h12 : r < Lp2) (hsl : sl ≤ sl2) (hnn : 5 ≤ Lp2 → 4 ≤ r) (hY : FX hm e t n Lp2 (r + 1) sl2 dl need (nxt (r + 1)) P) (hd : need ≤ dd)
    (stop : ∀ k v l q p S M x K, QJ t n k v l q p S M → x < 30 → (sgn k v = 0 ∨ tt (sgn k v) ≠ r) → K 1 S → B x S K)
    (step : ∀ k v l q p S M x K, QJ t n k v l q p S M → x < 30 → sgn k v ≠ 0 → tt (sgn k v) = r → M_Tk_advance hc (dd + 3) S (fun S2 => P dd S2 (fun r3 S3 => ((¬ r3 = 0 → M_Wr_put_34 hc (dd + 12) (nI (sgn k v)) S3 (fun S4 => B (x + 1) S4 K)) ∧ (r3 = 0 → K 0 S3)))) → B x S K)
    {st cs0 : List Nat} {u0 b : Nat} (hs : tp r st) (hcs : cs0.length ≤ 9 * u0) (hst0 : st.length ≤ dl + u0) :
    ∀ (N k v : Nat) (pend : List Nat) (u x : Nat) (S M : xSt), 30 - u ≤ N → x + 1 + u0 ≤ u → PT t n dl r sl st cs0 u0 b k v pend u S M → nxt (r + 1) k v pend →
      (∃ S' M' k' v' pend' u', (∀ K, K 1 S' → B x S K) ∧ (∀ K, WJ hm e M' K → WJ hm e M K) ∧ GC S S' ∧ GM M M' ∧ PT t n dl r sl st cs0 u0 b k' v' pend' u' S' M' ∧ nxt r k' v' pend') ∨ (∃ S' M', (∀ K, K 0 S' → B x S K) ∧ (∀ K, K M' → WJ hm e M K) ∧ GC S S' ∧ GM M M' ∧ FJ S' M') := by
  intro N
  induction N with
  | zero =>
    intro k v pend u x S M hN hx hP hn
    obtain ⟨l, q, p, w, os, y1, y2, y3, y4, y5, y6, y7, y8, y9, y10, y11, y12, y13⟩ := hP
    by_cases c : sgn k v ≠ 0 ∧ tt (sgn k v) = r
    · -- the units are all spent: the next one is refused
      have hco : (cs0 ++ w).length = os.length + pend.length := by rw [y6]; simp
      have hcw : (cs0 ++ w).length = cs0.length + w.length := by simp
      obtain ⟨S1, M1, k1, v1, l1, q1, p1, a1, a2, a3, a4, a5, a6, a7, a8⟩ := pushJ (hc := hc) (d := dd + 3) (hm := hm) (e := e) y1 rfl c.1 c.2 y5 y11 (fun z => absurd z hr4) hs (by omega) (by omega) (by omega)
      rw [← y6] at a8
      have ok : okp (sgn k v) := Or.inr (sgn_s c.1).1
      have hst : st.length ≤ (pend ++ st).length := by simp
      rcases hY dd k1 v1 l1 q1 p1 S1 M1 (cs0 ++ w) (sgn k v :: st) u hd a5 a7 (y4.t a3) a8 y8 (by omega) (by simp; omega) (fun o s' he => Or.inr (by injection he with g1 g2; rw [← g1]; exact ⟨ok, by omega⟩)) (fun z => Or.inr ⟨_, _, rfl, ok, by have := hnn z; omega⟩) with ⟨S2, M2, k2, v2, pend2, u2, b1, b2, b3, b4, ⟨l2, q2, p2, w2, os2, z1, z2, z3, z4, z5, z6, z7, z8, z9, z10, z11, z12, z13⟩, b6⟩ | ⟨S2, M2, b1, b2, b3, b4, b5⟩
      · omega
      · exact Or.inr ⟨S2, M2, fun K H => step k v l q p S M x K y1 (by omega) c.1 c.2 (a1 _ (b1 _ (br_nt rfl H))), fun K H => a2 K (b2 K H), a3.g.tr b3, a4.tr b4, b5⟩
    · have c' : sgn k v = 0 ∨ tt (sgn k v) ≠ r := by
        by_cases z : sgn k v = 0
        · exact Or.inl z
        · exact Or.inr (fun w => c ⟨z, w⟩)
      refine Or.inl ⟨S, M, k, v, pend, u, fun K H => stop k v l q p S M x K y1 (by omega) c' H, fun K H => H, GC.rf S, GM.rf M, ⟨l, q, p, w, os, y1, y2, y3, y4, y5, y6, y7, y8, y9, y10, y11, y12, y13⟩, ?_⟩
      rcases hn with hn | hn | hn
      · exact Or.inl hn
      · rcases c' with c' | c'
        · exact Or.inl c'
        · exact Or.inr (Or.inl (by omega))
      · exact Or.inr (Or.inr hn)
  | succ N ih =>
    intro k v pend u x S M hN hx hP hn
    obtain ⟨l, q, p, w, os, y1, y2, y3, y4, y5, y6, y7, y8, y9, y10, y11, y12, y13⟩ := hP
    by_cases c : sgn k v ≠ 0 ∧ tt (sgn k v) = r
    · have hco : (cs0 ++ w).length = os.length + pend.length := by rw [y6]; simp
      have hcw : (cs0 ++ w).length = cs0.length + w.length := by simp
      obtain ⟨S1, M1, k1, v1, l1, q1, p1, a1, a2, a3, a4, a5, a6, a7, a8⟩ := pushJ (hc := hc) (d := dd + 3) (hm := hm) (e := e) y1 rfl c.1 c.2 y5 y11 (fun z => absurd z hr4) hs (by omega) (by omega) (by omega)
      rw [← y6] at a8
      have so := (sgn_s c.1).1
      have ok : okp (sgn k v) := Or.inr so
      have sob := opL_b _ so
      have hst : st.length ≤ (pend ++ st).length := by simp
      rcases hY dd k1 v1 l1 q1 p1 S1 M1 (cs0 ++ w) (sgn k v :: st) u hd a5 a7 (y4.t a3) a8 y8 (by omega) (by simp; omega) (fun o s' he => Or.inr (by injection he with g1 g2; rw [← g1]; exact ⟨ok, by omega⟩)) (fun z => Or.inr ⟨_, _, rfl, ok, by have := hnn z; omega⟩) with ⟨S2, M2, k2, v2, pend2, u2, b1, b2, b3, b4, ⟨l2, q2, p2, w2, os2, z1, z2, z3, z4, z5, z6, z7, z8, z9, z10, z11, z12, z13⟩, b6⟩ | ⟨S2, M2, b1, b2, b3, b4, b5⟩
      · have hcw2 : ((cs0 ++ w) ++ w2).length = cs0.length + w.length + w2.length := by simp; omega
        obtain ⟨S3, e1, e2, e3, e4, e5, e6⟩ := putC (c := sgn k v) z4 (by omega)
        have hl1 : pend2 ++ sgn k v :: st = (pend2 ++ [sgn k v]) ++ st := by simp
        have hn1 : nots (pend2 ++ [sgn k v]) = nots pend2 := by rw [nots_app]; simp only [nots, if_neg sob.2.1]; omega
        have P3 : PT t n dl r sl st cs0 u0 b k2 v2 (pend2 ++ [sgn k v]) u2 S3 M2 := by
          refine ⟨l2, q2, p2, w ++ w2 ++ [sgn k v], os2, z1.fr e5 e4 (by rw [e6]) (by rw [e6]) rfl (fun _ _ _ => rfl) rfl, by omega, z3, ?_, ?_, ?_, by omega, z8, ?_, ?_, fun o ho => ?_, ?_, fun a ha => ?_⟩
          · have : cs0 ++ (w ++ w2 ++ [sgn k v]) = (cs0 ++ w) ++ w2 ++ [sgn k v] := by simp
            rw [this]; exact e2
          · rw [← hl1, hn1]; exact z5
          · have : cs0 ++ (w ++ w2 ++ [sgn k v]) = ((cs0 ++ w) ++ w2) ++ [sgn k v] := by simp
            rw [this, z6]; simp [(opC _ so).2]
          · simp; omega
          · rw [← hl1, hn1]; exact z10
          · rcases List.mem_append.mp ho with ho | ho
            · exact ⟨(z11 o ho).1, by have := (z11 o ho).2; omega⟩
            · have : o = sgn k v := by simpa using ho
              rw [this]; exact ⟨ok, by omega⟩
          · rw [hn1]; exact z12
          · refine wf_app (wf_app (y13 a (by omega)) (z13 (a + 1) (by omega))) ?_
            simp only [wf]
            exact Or.inr (Or.inr ⟨so, by omega, by omega⟩)
        have nx3 : nxt (r + 1) k2 v2 (pend2 ++ [sgn k v]) := by
          rcases b6 with b6 | b6 | b6
          · exact Or.inl b6
          · exact Or.inr (Or.inl b6)
          · exact Or.inr (Or.inr ⟨b6.1, hasR_app b6.2⟩)
        rcases ih k2 v2 (pend2 ++ [sgn k v]) u2 (x + 1) S3 M2 (by omega) (by omega) P3 nx3 with ⟨S4, M4, k4, v4, pend4, u4, f1, f2, f3, f4, f5, f6⟩ | ⟨S4, M4, f1, f2, f3, f4, f5⟩
        · exact Or.inl ⟨S4, M4, k4, v4, pend4, u4, fun K H => step k v l q p S M x K y1 (by omega) c.1 c.2 (a1 _ (b1 _ (br_nf (by decide) (e1 _ _ _ (f1 K H))))), fun K H => a2 K (b2 K (f2 K H)), a3.g.tr (b3.tr (e3.tr f3)), a4.tr (b4.tr f4), f5, f6⟩
        · exact Or.inr ⟨S4, M4, fun K H => step k v l q p S M x K y1 (by omega) c.1 c.2 (a1 _ (b1 _ (br_nf (by decide) (e1 _ _ _ (f1 K H))))), fun K H => a2 K (b2 K (f2 K H)), a3.g.tr (b3.tr (e3.tr f3)), a4.tr (b4.tr f4), f5⟩
      · exact Or.inr ⟨S2, M2, fun K H => step k v l q p S M x K y1 (by omega) c.1 c.2 (a1 _ (b1 _ (br_nt rfl H))), fun K H => a2 K (b2 K H), a3.g.tr b3, a4.tr b4, b5⟩
    · have c' : sgn k v = 0 ∨ tt (sgn k v) ≠ r := by
        by_cases z : sgn k v = 0
        · exact Or.inl z
        · exact Or.inr (fun w => c ⟨z, w⟩)
      refine Or.inl ⟨S, M, k, v, pend, u, fun K H => stop k v l q p S M x K y1 (by omega) c' H, fun K H => H, GC.rf S, GM.rf M, ⟨l, q, p, w, os, y1, y2, y3, y4, y5, y6, y7, y8, y9, y10, y11, y12, y13⟩, ?_⟩
      rcases hn with hn | hn | hn
      · exact Or.inl hn
      · rcases c' with c' | c'
        · exact Or.inl c'
        · exact Or.inr (Or.inl (by omega))
      · exact Or.inr (Or.inr hn)
end
end
