section
variable {hc hm : xH} {d e : Nat} {S M : xSt}
abbrev oDay (D hd t : Nat) : Int32 := nI D + (nI t - 1) / nI hd
abbrev pB (S : xSt) (x dy : Int32) (d b : Nat) : Prop := S.1 42 b = 0 ∧ S.1 7 b = x ∧ S.1 9 b = nI d ∧ ¬ S.1 11 b < dy
def fbS (S : xSt) (nb : Nat) (x : Int32) (D hd d t : Nat) : Bool := fo (fun b a => a || decide (pB S x (oDay D hd t) d b ∧ S.1 10 b = 0)) nb false
def kvS (S : xSt) (nb : Nat) (x : Int32) (D hd d t : Nat) : Int32 := fo (fun b a => if pB S x (oDay D hd t) d b ∧ ¬ S.1 10 b = 0 then a ||| oneAt (nI b) else a) nb 0
/-- what the reference's orders are reckoned from -/
def CM (S0 : xSt) (nd nb hd D : Nat) (hr : Nat → Nat) (M : xSt) : Prop := (M.1 0 57 = nI nd ∧ nd ≤ 6) ∧ (M.1 0 58 = nI nb ∧ nb ≤ 10) ∧ (M.1 0 60 = nI hd ∧ 1 ≤ hd ∧ hd ≤ 24) ∧ M.1 0 80 = nI D ∧ (∀ d, d < nd → M.1 18 d = nI (hr d) ∧ hr d ≤ 24) ∧ ∀ b, b < nb → M.1 34 b = S0.1 42 b ∧ M.1 26 b = S0.1 7 b ∧ M.1 28 b = S0.1 9 b ∧ M.1 33 b = S0.1 10 b ∧ M.1 29 b = S0.1 11 b
def oKp (kv : Nat → Nat → Int32) (hr f : Nat → Nat) : Nat → Int32
  | 0 => 0
  | n + 1 => oKp kv hr f n ||| kv (f n) (oHrs hr f n + hr (f n))
theorem oKp_c {kv : Nat → Nat → Int32} {hr f f' : Nat → Nat} : ∀ n, (∀ j, j < n → f j = f' j) → oKp kv hr f n = oKp kv hr f' n := by
  intro n
  induction n with
  | zero => intro _; rfl
  | succ n ih => intro h; show oKp kv hr f n ||| kv (f n) (oHrs hr f n + hr (f n)) = oKp kv hr f' n ||| kv (f' n) (oHrs hr f' n + hr (f' n)); rw [ih (fun j hj => h j (by omega)), h n (by omega), oHrs_c n (fun j hj => h j (by omega))]
/-- the reference's order under way -/
def SKo (kv : Nat → Nat → Int32) (hr : Nat → Nat) (o : oT) (M : xSt) : Prop := M.1 0 79 = nI o.1 ∧ (∀ j, j < o.1 → M.1 38 j = nI (o.2 j)) ∧ (∀ j, j ≤ o.1 → M.1 39 j = nI (oHrs hr o.2 j)) ∧ ∀ j, j ≤ o.1 → M.1 40 j = oKp kv hr o.2 j
theorem oHrs_le {nd : Nat} {hr f : Nat → Nat} (h : ∀ d, d < nd → hr d ≤ 24) : ∀ n, (∀ j, j < n → f j < nd) → oHrs hr f n ≤ 24 * n := by
  intro n
  induction n with
  | zero => intro _; exact Nat.le_refl _
  | succ n ih =>
    intro hf
    show oHrs hr f n + hr (f n) ≤ _
    have := ih (fun j hj => hf j (by omega))
    have := h (f n) (hf n (by omega))
    omega
theorem m_isForb {S0 : xSt} {nd nb hd D dd t : Nat} {hr : Nat → Nat} {x : Int32} (hC : CM S0 nd nb hd D hr M) {K : Int32 → xSt → Prop} (H : K (if fbS S0 nb x D hd dd t = true then 1 else 0) M) : M_M_isForbidden hm e x (nI dd) (oDay D hd t) M K := by
  obtain ⟨-, ⟨b1, b2⟩, -, -, -, hb⟩ := hC
  refine e_M_isForbidden ?_
  refine lp_up (B := fun i (a : Bool) => B_M_isForbidden_6 hm e x (nI dd) (oDay D hd t) (if a = true then 1 else 0) (nI i) M K) (fun b a => a || decide (pB S0 x (oDay D hd t) dd b ∧ S0.1 10 b = 0)) nb (fun i a hi ih => ?_) false ?_
  · have ci : (nI i).toNatClampNeg = i := nCl (by omega)
    have v : vp_in (nI i) 10 := vIn (by omega) (by omega)
    obtain ⟨h1, h2, h3, h4, h5⟩ := hb i hi
    have go : ∀ y : Int32, y = (if (a || decide (pB S0 x (oDay D hd t) dd i ∧ S0.1 10 i = 0)) = true then 1 else 0) → B_M_isForbidden_77 hm e x (nI dd) (oDay D hd t) (nI i) y M K := fun y hy => b_M_isForbidden_77 (by rw [nI_1, hy]; exact ih)
    refine b_M_isForbidden_6 (br_f (by rw [b1]; exact nI_ge hi (by omega)) ?_)
    cases a with
    | true => exact br_nf (by decide) (b_M_isForbidden_72 (go _ rfl))
    | false =>
      have no : ¬ (pB S0 x (oDay D hd t) dd i ∧ S0.1 10 i = 0) → B_M_isForbidden_76 hm e x (nI dd) (oDay D hd t) (nI i) M K := fun z => b_M_isForbidden_76 (go _ (by simp [z]))
      refine br_nt rfl (m_M_isOn (vIn (by omega) (by omega)) ?_)
      rw [ci, h1, h2, h3, h4, h5]
      by_cases c1 : S0.1 42 i = 0
      · rw [bi_pos c1]
        refine br_f (by decide) ⟨v, ?_⟩
        by_cases c2 : S0.1 7 i = x
        · refine br_nt c2 ⟨v, ?_⟩
          by_cases c3 : S0.1 9 i = nI dd
          · refine br_nt c3 ⟨v, ?_⟩
            by_cases c4 : S0.1 10 i = 0
            · refine br_nt c4 ⟨v, ?_⟩
              by_cases c5 : S0.1 11 i < oDay D hd t
              · exact br_t c5 (no (fun z => z.1.2.2.2 c5))
              · exact br_f c5 (b_M_isForbidden_72 (go _ (by rw [if_pos]; simp [c1, c2, c3, c4, c5])))
            · exact br_nf c4 (no (fun z => c4 z.2))
          · exact br_nf c3 (no (fun z => c3 z.1.2.2.1))
        · exact br_nf c2 (no (fun z => c2 z.1.2.1))
      · rw [bi_neg c1]; exact br_t rfl (no (fun z => c1 z.1.1))
  · refine b_M_isForbidden_6 (br_t (by rw [b1]; exact nI_le (Nat.le_refl _) (by omega)) ⟨?_, H⟩)
    split
    · exact zb1
    · exact zb0
theorem m_keptOf {S0 : xSt} {nd nb hd D dd t : Nat} {hr : Nat → Nat} {x : Int32} (hC : CM S0 nd nb hd D hr M) {K : Int32 → xSt → Prop} (H : K (kvS S0 nb x D hd dd t) M) : M_M_keptOf hm e x (nI dd) (oDay D hd t) M K := by
  obtain ⟨-, ⟨b1, b2⟩, -, -, -, hb⟩ := hC
  refine e_M_keptOf ?_
  refine lp_up (B := fun i (a : Int32) => B_M_keptOf_6 hm e x (nI dd) (oDay D hd t) a (nI i) M K) (fun b a => if pB S0 x (oDay D hd t) dd b ∧ ¬ S0.1 10 b = 0 then a ||| oneAt (nI b) else a) nb (fun i a hi ih => ?_) 0 ?_
  · have ci : (nI i).toNatClampNeg = i := nCl (by omega)
    have v : vp_in (nI i) 10 := vIn (by omega) (by omega)
    obtain ⟨h1, h2, h3, h4, h5⟩ := hb i hi
    have no : ¬ (pB S0 x (oDay D hd t) dd i ∧ ¬ S0.1 10 i = 0) → B_M_keptOf_73 hm e x (nI dd) (oDay D hd t) (nI i) a M K := by
      intro z
      rw [if_neg z] at ih
      refine b_M_keptOf_73 (b_M_keptOf_74 (truth0 ?_))
      rw [or_z, nI_1]; exact ih
    refine b_M_keptOf_6 (br_f (by rw [b1]; exact nI_ge hi (by omega)) (m_M_isOn (vIn (by omega) (by omega)) ?_))
    rw [ci, h1, h2, h3, h4, h5]
    by_cases c1 : S0.1 42 i = 0
    · rw [bi_pos c1]
      refine br_f (by decide) ⟨v, ?_⟩
      by_cases c2 : S0.1 7 i = x
      · refine br_nt c2 ⟨v, ?_⟩
        by_cases c3 : S0.1 9 i = nI dd
        · refine br_nt c3 ⟨v, ?_⟩
          by_cases c4 : S0.1 10 i = 0
          · exact br_t c4 (no (fun z => z.2 c4))
          · refine br_f c4 ⟨v, ?_⟩
            by_cases c5 : S0.1 11 i < oDay D hd t
            · exact br_t c5 (no (fun z => z.1.2.2.2 c5))
            · rw [if_pos ⟨⟨c1, c2, c3, c5⟩, c4⟩] at ih
              refine br_f c5 (b_M_keptOf_74 (truth1 ?_))
              rw [nI_1]; exact ih
        · exact br_nf c3 (no (fun z => c3 z.1.2.2.1))
      · exact br_nf c2 (no (fun z => c2 z.1.2.1))
    · rw [bi_neg c1]; exact br_t rfl (no (fun z => c1 z.1.1))
  · exact b_M_keptOf_6 (br_t (by rw [b1]; exact nI_le (Nat.le_refl _) (by omega)) H)
end
