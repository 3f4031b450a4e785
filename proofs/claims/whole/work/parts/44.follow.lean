section
variable {hc hm : xH} {d e : Nat} {S M : xSt}
section
variable {S0 : xSt} {nd nb hd D : Nat} {hr : Nat → Nat} {x : Int32}
abbrev bI (S : xSt) (A : Nat) : Int := (S.1 49 A).toInt
abbrev alS (S0 : xSt) (nd nb hd D : Nat) (hr : Nat → Nat) (x : Int32) (A d : Nat) : Prop := A.testBit d = false ∧ fbS S0 nb x D hd d (hSe hr (A ||| 2 ^ d) nd) = false
def wS (S0 : xSt) (nd nb hd D : Nat) (hr : Nat → Nat) (x : Int32) (S : xSt) (A d : Nat) : Int := 1000 * (gS S0 nb x D hd d (hSe hr (A ||| 2 ^ d) nd) : Int) - (hr d : Int) + bI S (A ||| 2 ^ d)
/-- the class's best for a set of deeds -/
def RecOK (S0 : xSt) (nd nb hd D : Nat) (hr : Nat → Nat) (x : Int32) (S : xSt) (A : Nat) : Prop := bI S A = mxG (wS S0 nd nb hd D hr x S A) 0 (fmG (alS S0 nd nb hd D hr x A) (wS S0 nd nb hd D hr x S A) nd nd)
def cap (nd A : Nat) : Nat := 10000 * (2 ^ nd - 1 - A)
theorem cap_st {nd A A' : Nat} (h : A < A') (h2 : A' < 2 ^ nd) : cap nd A' + 10000 ≤ cap nd A := by unfold cap; omega
theorem cap_le {nd : Nat} (h : nd ≤ 6) (A : Nat) : cap nd A ≤ 640000 := by
  have := pw64 h
  unfold cap; omega
def Bnd (nd : Nat) (S : xSt) (A : Nat) : Prop := ∃ b, b ≤ cap nd A ∧ S.1 49 A = nI b
theorem kv_n (hnb : nb ≤ 10) (dd t : Nat) : ∃ k, k < 1024 ∧ kvS S0 nb x D hd dd t = nI k := bits10 (fun i hi h10 => by
  rw [bt_kv hnb hi]
  exact decide_eq_false (fun z => absurd z.1 (by omega)))
theorem m_wonBy (hT : CT S0 nd nb hd hr) (hC : CO S0 nd nb hr x S) (hB : S.1 46 4 = nI D) {A dd : Nat} (hA : A < 2 ^ nd) (hd' : dd < nd) (hb : Bnd nd S (A ||| 2 ^ dd)) {K : Int32 → xSt → Prop} (H0 : fbS S0 nb x D hd dd (hSe hr (A ||| 2 ^ dd) nd) = true → K (-1) S) (H1 : fbS S0 nb x D hd dd (hSe hr (A ||| 2 ^ dd) nd) = false → ∀ r, r.toInt = wS S0 nd nb hd D hr x S A dd → K r S) : M_Or_wonBy hc d (nI A) (nI dd) S K := by
  have hnd := hT.1.2
  have hnb := hT.2.1.2
  have hh := hT.2.2.2 dd hd'
  have p64 := pw64 hnd
  have hlt := or_lt6 hA hd'
  have eo : nI A ||| (1 : Int32) <<< (nI dd &&& 31) = nI (A ||| 2 ^ dd) := set_or A (by omega) dd (by omega)
  have v64 : vp_in (nI (A ||| 2 ^ dd)) 64 := vIn (by omega) (by omega)
  refine e_Or_wonBy ?_
  rw [eo, nCl (by omega), hC.2.2.2 _ hlt]
  refine ⟨v64, m_keptBy hT hC hB ?_⟩
  cases q : fbS S0 nb x D hd dd (hSe hr (A ||| 2 ^ dd) nd) with
  | true => rw [if_pos rfl]; exact br_nt rfl (H0 q)
  | false =>
    rw [if_neg (by simp)]
    obtain ⟨k, hk, ek⟩ := kv_n (S0 := S0) (x := x) (D := D) (hd := hd) hnb dd (hSe hr (A ||| 2 ^ dd) nd)
    refine br_nf (by rw [ek]; exact nM1 (by omega)) (m_bitC ek hk ⟨vIn (by omega) (by omega), v64, H1 q _ ?_⟩)
    obtain ⟨b, hb1, hb2⟩ := hb
    have hcap := cap_le hnd (A ||| 2 ^ dd)
    rw [nCl (by omega), hC.1 6 (by omega), hh.1, hb2]
    unfold wS
    have pl := pcI_le (kvS S0 nb x D hd dd (hSe hr (A ||| 2 ^ dd) nd))
    have e1 : bI S (A ||| 2 ^ dd) = (b : Int) := by show (S.1 49 _).toInt = _; rw [hb2]; exact nI_toInt (by omega)
    rw [e1]
    show _ = 1000 * (pcI (kvS S0 nb x D hd dd (hSe hr (A ||| 2 ^ dd) nd)) : Int) - (hr dd : Int) + (b : Int)
    generalize pcI (kvS S0 nb x D hd dd (hSe hr (A ||| 2 ^ dd) nd)) = p at pl ⊢
    have m1 : (nI p * 1000).toInt = 1000 * (p : Int) := by rw [show (1000 : Int32) = nI 1000 from rfl, pk_mul, nI_toInt (by omega)]; omega
    have h1 : (nI (hr dd)).toInt = (hr dd : Int) := nI_toInt (by omega)
    have b1 : (nI b).toInt = (b : Int) := nI_toInt (by omega)
    have s1 : (nI p * 1000 - nI (hr dd)).toInt = 1000 * (p : Int) - (hr dd : Int) := by rw [subI (by omega) (by omega), m1, h1]
    rw [addI (by omega) (by omega), s1, b1]
theorem keep_b {q : xSt} {t : Nat} {v : Int32} {A : Nat} (hA : A ≠ t) : bI (x_putI q 49 t v) A = bI q A := by
  show ((x_putI q 49 t v).1 49 A).toInt = (q.1 49 A).toInt
  rw [gI_same, up_n _ _ hA]
theorem wS_same {q : xSt} {t A dd : Nat} {v : Int32} (hA : t ≤ A) (al : alS S0 nd nb hd D hr x A dd) : wS S0 nd nb hd D hr x (x_putI q 49 t v) A dd = wS S0 nd nb hd D hr x q A dd := by
  have := or_gt al.1
  unfold wS
  rw [keep_b (by omega)]
theorem mxG_c {al : Nat → Prop} [DecidablePred al] {w w' : Nat → Int} {n : Nat} (h : ∀ d, d < n → al d → w d = w' d) : mxG w 0 (fmG al w n n) = mxG w' 0 (fmG al w' n n) := by
  obtain ⟨h1, h2⟩ := fmG_c (al := al) (al' := al) (w := w) (w' := w') (nd := n) (fun d hd => ⟨Iff.rfl, fun a => h d hd a⟩) n (Nat.le_refl _)
  rw [← h1]
  cases e : fmG al w n n with
  | none => rfl
  | some d0 =>
    obtain ⟨a, b⟩ := h2 d0 e
    unfold mxG
    simp only []
    rw [h d0 a b]
theorem rec_st {q : xSt} {t b : Nat} (hnd : nd ≤ 6) (hb : b ≤ cap nd t) (he : (b : Int) = mxG (wS S0 nd nb hd D hr x q t) 0 (fmG (alS S0 nd nb hd D hr x t) (wS S0 nd nb hd D hr x q t) nd nd)) (h3 : ∀ A, t + 1 ≤ A → A < 2 ^ nd → Bnd nd q A ∧ RecOK S0 nd nb hd D hr x q A) : ∀ A, t ≤ A → A < 2 ^ nd → Bnd nd (x_putI q 49 t (nI b)) A ∧ RecOK S0 nd nb hd D hr x (x_putI q 49 t (nI b)) A := by
  intro A h1 h2
  have hcap := cap_le hnd t
  have ms := mxG_c (al := alS S0 nd nb hd D hr x A) (w := wS S0 nd nb hd D hr x (x_putI q 49 t (nI b)) A) (w' := wS S0 nd nb hd D hr x q A) (n := nd) (fun d _ al => wS_same h1 al)
  unfold RecOK
  rw [ms]
  by_cases y : A = t
  · rw [y]
    refine ⟨⟨b, hb, ?_⟩, ?_⟩
    · rw [gI_same, up_s]
    · rw [← he]
      show ((x_putI q 49 t (nI b)).1 49 t).toInt = _
      rw [gI_same, up_s, nI_toInt (by omega)]
  · obtain ⟨⟨b', g1, g2⟩, g3⟩ := h3 A (by omega) h2
    refine ⟨⟨b', g1, ?_⟩, ?_⟩
    · rw [gI_same, up_n _ _ y]; exact g2
    · rw [keep_b y]; exact g3
theorem m_findBest (hT : CT S0 nd nb hd hr) (hC : CO S0 nd nb hr x S) {K : xSt → Prop} (H : ∀ S', CO S0 nd nb hr x S' → S'.1 46 4 = nI D → (∀ A, A < 2 ^ nd → Bnd nd S' A ∧ RecOK S0 nd nb hd D hr x S' A) → K S') : M_Or_findBest hc d (nI D) S K := by
  have hnd := hT.1.2
  have p64 := pw64 hnd
  have ed : S.1 2 4 = nI nd := by rw [hC.1 2 (by omega)]; exact hT.1.1
  have p1 : 1 ≤ 2 ^ nd := Nat.pow_pos (by omega)
  refine e_Or_findBest ?_
  rw [ed, set_1 nd (by omega), show (1 : Int32) = nI 1 from rfl, pk_sub p1]
  have run : ∀ t, t ≤ 2 ^ nd → ∀ q : xSt, CO S0 nd nb hr x q → q.1 46 4 = nI D → (∀ A, t ≤ A → A < 2 ^ nd → Bnd nd q A ∧ RecOK S0 nd nb hd D hr x q A) → B_Or_findBest_17 hc d (nI t - 1) q K := by
    intro t
    induction t with
    | zero =>
      intro _ q h1 h2 h3
      exact b_Or_findBest_17 (br_t (by decide) (H q h1 h2 (fun A hA => h3 A (Nat.zero_le _) hA)))
    | succ t ih =>
      intro ht q h1 h2 h3
      rw [nI_pred]
      refine b_Or_findBest_17 (br_f (nN0 (by omega)) ?_)
      have edq : q.1 2 4 = nI nd := by rw [h1.1 2 (by omega)]; exact hT.1.1
      have hcap := cap_le hnd t
      -- the deeds in turn
      have inner : ∀ m, m ≤ nd → ∀ a : Nat, a ≤ cap nd t → (∀ b : Nat, b ≤ cap nd t → (b : Int) = mxG (wS S0 nd nb hd D hr x q t) (a : Int) (fmG (alS S0 nd nb hd D hr x t) (wS S0 nd nb hd D hr x q t) nd m) → B_Or_findBest_17 hc d (nI t + (-1)) (x_putI q 49 t (nI b)) K) → B_Or_findBest_26 hc d (nI t) (nI a) (nI (nd - m)) q K := by
        intro m
        induction m with
        | zero =>
          intro _ a ha go
          refine b_Or_findBest_26 (br_t (by rw [edq]; exact nI_le (Nat.le_refl _) (by omega)) ⟨vIn (by omega) (by omega), ?_⟩)
          rw [nCl (by omega)]
          exact go a ha rfl
        | succ m ihm =>
          intro hm a ha go
          have e1 : nI (nd - (m + 1)) + 1 = nI (nd - m) := by rw [nI_1, show nd - (m + 1) + 1 = nd - m by omega]
          rw [mxG_s] at go
          have sk : ∀ a', a' ≤ cap nd t → (a' : Int) = (if alS S0 nd nb hd D hr x t (nd - (m + 1)) then (if (a : Int) < wS S0 nd nb hd D hr x q t (nd - (m + 1)) then wS S0 nd nb hd D hr x q t (nd - (m + 1)) else (a : Int)) else (a : Int)) → B_Or_findBest_59 hc d (nI t) (nI a') (nI (nd - (m + 1))) q K := by
            intro a' h' hv
            refine b_Or_findBest_59 ?_
            rw [e1]
            refine ihm (by omega) a' h' (fun b hb he => go b hb ?_)
            rw [← hv]; exact he
          refine b_Or_findBest_26 (br_f (by rw [edq]; exact nI_ge (by omega) (by omega)) ?_)
          have tin := set_in t (by omega) (nd - (m + 1)) (by omega)
          by_cases c : t.testBit (nd - (m + 1)) = false
          · have gt := or_gt c
            have hlt := or_lt6 (show t < 2 ^ nd by omega) (show nd - (m + 1) < nd by omega)
            obtain ⟨hb1, -⟩ := h3 (t ||| 2 ^ (nd - (m + 1))) (by omega) hlt
            refine br_nt (tin.mpr c) (m_wonBy hT h1 h2 (by omega) (by omega) hb1 (fun f => ?_) (fun f r hr' => ?_))
            · have : ¬ nI a < (-1 : Int32) := by
                rw [Int32.lt_iff_toInt_lt, nI_toInt (by omega)]
                have : (-1 : Int32).toInt = -1 := by decide
                omega
              rw [if_neg this]
              exact sk a ha (by rw [if_neg (fun z => by have := z.2; rw [f] at this; exact absurd this (by simp))])
            · have al : alS S0 nd nb hd D hr x t (nd - (m + 1)) := ⟨c, f⟩
              by_cases y : (a : Int) < wS S0 nd nb hd D hr x q t (nd - (m + 1))
              · have lt : nI a < r := by rw [Int32.lt_iff_toInt_lt, nI_toInt (by omega), hr']; exact y
                rw [if_pos lt]
                obtain ⟨b, hb2, hb3⟩ := hb1
                have cst := cap_st gt hlt
                have pl := pcI_le (kvS S0 nb x D hd (nd - (m + 1)) (hSe hr (t ||| 2 ^ (nd - (m + 1))) nd))
                have hw : wS S0 nd nb hd D hr x q t (nd - (m + 1)) = 1000 * (pcI (kvS S0 nb x D hd (nd - (m + 1)) (hSe hr (t ||| 2 ^ (nd - (m + 1))) nd)) : Int) - (hr (nd - (m + 1)) : Int) + (b : Int) := by
                  unfold wS
                  have e1 : bI q (t ||| 2 ^ (nd - (m + 1))) = (b : Int) := by show (q.1 49 _).toInt = _; rw [hb3]; exact nI_toInt (by omega)
                  rw [e1]
                obtain ⟨w, hw2⟩ : ∃ w : Nat, wS S0 nd nb hd D hr x q t (nd - (m + 1)) = (w : Int) := ⟨(wS S0 nd nb hd D hr x q t (nd - (m + 1))).toNat, by omega⟩
                have hw3 : w ≤ cap nd t := by omega
                have er : r = nI w := i32 (by rw [hr', hw2, nI_toInt (by omega)])
                rw [er]
                exact sk w hw3 (by rw [if_pos al, if_pos y, hw2])
              · have lt : ¬ nI a < r := by rw [Int32.lt_iff_toInt_lt, nI_toInt (by omega), hr']; exact y
                rw [if_neg lt]
                exact sk a ha (by rw [if_pos al, if_neg y])
          · exact br_nf (fun z => c (tin.mp z)) (sk a ha (by rw [if_neg (fun z => c z.1)]))
      have := inner nd (Nat.le_refl _) 0 (Nat.zero_le _) (fun b hb he => ?_)
      · rw [Nat.sub_self] at this; exact this
      · rw [add_m1]
        exact ih (by omega) _ ⟨fun c hc => by rw [gI_ne _ _ _ (by omega)]; exact h1.1 c hc, h1.2.1, h1.2.2.1, h1.2.2.2⟩ h2 (rec_st hnd hb he h3)
  have := run (2 ^ nd) (Nat.le_refl _) (x_putI S 46 4 (nI D)) ⟨fun c hc => by rw [gI_ne _ _ _ (by omega)]; exact hC.1 c hc, hC.2.1, hC.2.2.1, hC.2.2.2⟩ rfl (fun A h1 h2 => absurd h1 (by omega))
  rw [show nI (2 ^ nd) - 1 = nI (2 ^ nd - 1) by rw [show (1 : Int32) = nI 1 from rfl, pk_sub p1]] at this
  exact this
end
end
