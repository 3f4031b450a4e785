section
variable {hc hm : xH} {d e : Nat} {S M : xSt}
def GM (M M' : xSt) : Prop := (∀ c, c ∉ [0, 3, 4, 7] → M'.1 c = M.1 c) ∧ (∀ j, j < 2 ∨ 8 < j → j ∉ [17, 19, 20, 22, 23] → M'.1 0 j = M.1 0 j) ∧ ∀ c, c ≠ 0 → M'.2.1 c = M.2.1 c
def ZM (M M' : xSt) : Prop := (∀ c, c ∉ [0, 3, 4, 7] → M'.1 c = M.1 c) ∧ (∀ j, j ∉ [17, 19, 20, 22, 23] → M'.1 0 j = M.1 0 j) ∧ M'.2 = M.2
def GC (S S' : xSt) : Prop := (∀ c, c ≠ 19 → c ≠ 34 → c ≠ 35 → S'.1 c = S.1 c) ∧ ∀ c, c ≠ 19 → S'.2.1 c = S.2.1 c
theorem GM.tr {a b c : xSt} (h : GM a b) (g : GM b c) : GM a c := ⟨fun x hx => (g.1 x hx).trans (h.1 x hx), fun j h1 h2 => (g.2.1 j h1 h2).trans (h.2.1 j h1 h2), fun x hx => (g.2.2 x hx).trans (h.2.2 x hx)⟩
theorem ZM.tr {a b c : xSt} (h : ZM a b) (g : ZM b c) : ZM a c := ⟨fun x hx => (g.1 x hx).trans (h.1 x hx), fun j h2 => (g.2.1 j h2).trans (h.2.1 j h2), g.2.2.trans h.2.2⟩
theorem GC.tr {a b c : xSt} (h : GC a b) (g : GC b c) : GC a c := ⟨fun x h1 h2 h3 => (g.1 x h1 h2 h3).trans (h.1 x h1 h2 h3), fun x hx => (g.2 x hx).trans (h.2 x hx)⟩
theorem ZM.rf (M : xSt) : ZM M M := ⟨fun _ _ => rfl, fun _ _ => rfl, rfl⟩
theorem GM.rf (M : xSt) : GM M M := ⟨fun _ _ => rfl, fun _ _ _ => rfl, fun _ _ => rfl⟩
theorem GC.rf (M : xSt) : GC M M := ⟨fun _ _ _ _ => rfl, fun _ _ => rfl⟩
theorem ZM.g {M' : xSt} (h : ZM M M') : GM M M' := ⟨h.1, fun j _ h2 => h.2.1 j h2, fun c _ => by rw [h.2.2]⟩
theorem fM.g {M' : xSt} (h : fM M M') : GM M M' := ⟨fun c hc => h.1 c (fun z => hc (by rw [z]; decide)), fun j h1 _ => h.2.2 j h1, h.2.1⟩
theorem fT.g {S' : xSt} (h : fT S S') : GC S S' := ⟨fun c h1 _ _ => h.1 c h1, h.2.1⟩
theorem ZM.p {c j : Nat} {v : Int32} (h : c = 3 ∨ c = 4 ∨ c = 7) : ZM M (x_putI M c j v) := ⟨fun c' hc => gI_ne _ _ _ (fun z => hc (by rw [z]; rcases h with h | h | h <;> rw [h] <;> decide)), fun i _ => by rw [gI_ne _ _ _ (by omega)], rfl⟩
theorem ZM.p0 {j : Nat} {v : Int32} (h : j ∈ [17, 19, 20, 22, 23]) : ZM M (x_putI M 0 j v) := ⟨fun c' hc => gI_ne _ _ _ (fun z => hc (by rw [z]; decide)), fun i hi => by rw [gI_same, up_n _ _ (fun z => hi (by rw [z]; exact h))], rfl⟩
theorem tightM {o : Nat} (h : okp o) {K : Int32 → xSt → Prop} (H : K (nI (tt o)) M) : M_M_tight hm e (nI o) M K := by
  have b := okp_b h
  have j : ∀ m, m < 125 → nI o = nI m → o = m := fun m hm z => (nEq (by omega) (by omega)).mp z
  refine e_M_tight ⟨fun z => ?_, fun z => ?_, fun z => ?_, fun z => ?_, fun z => ?_, fun z => ?_, fun z => ?_, fun z => ?_, fun z1 z2 z3 z4 z5 z6 z7 z8 => ?_⟩
  · have := j 21 (by omega) z; rw [this] at H; exact H
  · have := j 38 (by omega) z; rw [this] at H; exact H
  · have := j 43 (by omega) z; rw [this] at H; exact H
  · have := j 45 (by omega) z; rw [this] at H; exact H
  · have := j 60 (by omega) z; rw [this] at H; exact H
  · have := j 61 (by omega) z; rw [this] at H; exact H
  · have := j 62 (by omega) z; rw [this] at H; exact H
  · have := j 124 (by omega) z; rw [this] at H; exact H
  · have n : ∀ m, ¬ nI o = nI m → ¬ o = m := fun m h z => h (by rw [z])
    have : tt o = 6 := by
      unfold tt
      rw [if_neg (n 21 z1), if_neg (n 38 z2), if_neg (n 43 z3), if_neg (n 45 z4), if_neg (n 60 z5), if_neg (n 61 z6), if_neg (n 62 z7), if_neg (n 124 z8)]
    rw [this] at H; exact H
/-- what the reference holds of a formula; what the class holds -/
def FM (os st : List Nat) (dp u : Nat) (M : xSt) : Prop := M.1 0 17 = nI os.length ∧ (∀ i c, os[i]? = some c → wEnc (nI c) (M.1 3 i) (M.1 4 i)) ∧ M.1 0 20 = nI u ∧ M.1 0 22 = nI u ∧ M.1 0 19 = nI st.length ∧ stk st (M.1 7) ∧ M.1 0 23 = nI dp ∧ ∀ o, o ∈ st → o = 20 ∨ okp o
def FC (cs : List Nat) (u : Nat) (S : xSt) : Prop := S.1 34 1 = nI cs.length ∧ (∀ i c, cs[i]? = some c → S.1 35 i = nI c) ∧ S.1 34 3 = nI u
theorem FM.t {os st : List Nat} {dp u : Nat} {M' : xSt} (h : FM os st dp u M) (g : fM M M') : FM os st dp u M' := by
  obtain ⟨h1, h2, h3, h4, h5, h6, h7, h8⟩ := h
  exact ⟨by rw [g.2.2 17 (by decide)]; exact h1, by rw [g.1 3 (by decide), g.1 4 (by decide)]; exact h2, by rw [g.2.2 20 (by decide)]; exact h3, by rw [g.2.2 22 (by decide)]; exact h4, by rw [g.2.2 19 (by decide)]; exact h5, by rw [g.1 7 (by decide)]; exact h6, by rw [g.2.2 23 (by decide)]; exact h7, h8⟩
theorem FC.t {cs : List Nat} {u : Nat} {S' : xSt} (h : FC cs u S) (g : fT S S') : FC cs u S' := by
  unfold FC; rw [g.1 34 (by decide), g.1 35 (by decide)]; exact h
theorem addM {os st : List Nat} {dp u c : Nat} (h : FM os st dp u M) (hl : os.length < 300) {s a : Int32} (hw : wEnc (nI c) s a) : ∃ M', (∀ hm e K, K M' → M_M_add hm e s a M K) ∧ FM (os ++ [c]) st dp u M' ∧ ZM M M' := by
  obtain ⟨h1, h2, h3, h4, h5, h6, h7, h8⟩ := h
  refine ⟨x_putI (x_putI (x_putI M 3 os.length s) 4 os.length a) 0 17 (nI (os.length + 1)), fun hm e K H => e_M_add ?_, ⟨?_, fun i c' hi => ?_, ?_, ?_, ?_, h6, ?_, h8⟩, ((ZM.p (by omega)).tr (ZM.p (by omega))).tr (ZM.p0 (by decide))⟩
  · rw [h1, nCl (by omega), nI_1]
    exact ⟨vIn (by omega) (by omega), vIn (by omega) (by omega), H⟩
  · rw [gI_same, up_s]; simp
  · show wEnc (nI c') (upd (M.1 3) os.length s i) (upd (M.1 4) os.length a i)
    by_cases y : i = os.length
    · rw [y, up_s, up_s]
      rw [y] at hi
      have : c = c' := by simpa using hi
      rw [← this]; exact hw
    · rw [up_n _ _ y, up_n _ _ y]
      refine h2 i c' ?_
      by_cases z : i < os.length
      · rw [List.getElem?_append_left z] at hi; exact hi
      · rw [List.getElem?_eq_none (by simp; omega)] at hi; exact absurd hi (by simp)
  · rw [gI_same, up_n _ _ (by decide)]; exact h3
  · rw [gI_same, up_n _ _ (by decide)]; exact h4
  · rw [gI_same, up_n _ _ (by decide)]; exact h5
  · rw [gI_same, up_n _ _ (by decide)]; exact h7
theorem closeM {r u : Nat} (hr : r ≤ 10) {s : List Nat} (hs : tp r s) : ∀ (p os : List Nat) (dp : Nat) (M : xSt), FM os (p ++ s) (dp + nots p) u M → (∀ o, o ∈ p → okp o ∧ r ≤ tt o) → os.length + p.length ≤ 300 → (p ++ s).length ≤ 160 → dp + nots p ≤ 100 → ∃ M', (∀ K, K M' → B_M_close_0 hm e (nI r) M K) ∧ FM (os ++ p.map cod) s dp u M' ∧ ZM M M' := by
  intro p
  induction p with
  | nil =>
    intro os dp M h hp h1 h2 h3
    refine ⟨M, fun K H => b_M_close_0 ?_, by simpa [nots] using h, ZM.rf M⟩
    obtain ⟨g1, g2, g3, g4, g5, g6, g7, g8⟩ := h
    rw [List.nil_append] at g5 g6 g8 h2
    rw [g5]
    cases s with
    | nil => exact br_t (by decide) H
    | cons o s' =>
      simp only [List.length_cons] at h2 ⊢
      rw [nI_pred, nCl (by omega), g6.1]
      refine br_f (fun z => by have := (nLe (b := 0) (by omega) (by omega)).mp z; omega) ⟨vIn (by omega) (by omega), ?_⟩
      rcases hs o s' rfl with y | ⟨y1, y2⟩
      · exact br_t (by rw [y]; rfl) H
      · have b := okp_b y1
        have tb := tt_b o
        exact br_f (fun z => by have := (nEq (b := 20) (by omega) (by omega)).mp z; omega) ⟨vIn (by omega) (by omega), tightM y1 (br_t ((nLt (by omega) (by omega)).mpr y2) H)⟩
  | cons o p ih =>
    intro os dp M h hp h1 h2 h3
    obtain ⟨ho1, ho2⟩ := hp o (by simp)
    have b := okp_b ho1
    have tb := tt_b o
    obtain ⟨g1, g2, g3, g4, g5, g6, g7, g8⟩ := h
    have hlen : (o :: p ++ s).length = (p ++ s).length + 1 := by simp
    have hpl : (o :: p).length = p.length + 1 := by simp
    rw [hlen] at h2 g5
    rw [hpl] at h1
    have g6' : M.1 7 (p ++ s).length = nI o ∧ stk (p ++ s) (M.1 7) := g6
    have F1 : ∀ dq, M.1 0 23 = nI dq → FM os (p ++ s) dq u (x_putI M 0 19 (nI (p ++ s).length)) := fun dq hq => ⟨by rw [gI_same, up_n _ _ (by decide)]; exact g1, g2, by rw [gI_same, up_n _ _ (by decide)]; exact g3, by rw [gI_same, up_n _ _ (by decide)]; exact g4, by rw [gI_same, up_s], g6'.2, by rw [gI_same, up_n _ _ (by decide)]; exact hq, fun x hx => g8 x (by simp only [List.cons_append, List.mem_cons]; exact Or.inr hx)⟩
    have pre : ∀ K, ((¬ nI o = 21 → M_M_add hm e 3 (nI o) (x_putI M 0 19 (nI (p ++ s).length)) (fun S2 => B_M_close_0 hm e (nI r) S2 K)) ∧ (nI o = 21 → M_M_add hm e 2 0 (x_putI M 0 19 (nI (p ++ s).length)) (fun S3 => B_M_close_0 hm e (nI r) (x_putI S3 0 23 ((S3.1 0 23) - 1)) K))) → B_M_close_0 hm e (nI r) M K := by
      intro K H
      refine b_M_close_0 ?_
      rw [g5, nI_pred, nCl (by omega), g6'.1]
      refine br_f (fun z => by have := (nLe (b := 0) (by omega) (by omega)).mp z; omega) ⟨vIn (by omega) (by omega), br_f (fun z => by have := (nEq (b := 20) (by omega) (by omega)).mp z; omega) ⟨vIn (by omega) (by omega), tightM ho1 (br_f (fun z => by have := (nLt (by omega) (by omega)).mp z; omega) ?_)⟩⟩
      rw [g5, nI_pred, nCl (by omega), g6'.1]
      exact ⟨vIn (by omega) (by omega), fun z => ⟨vIn (by omega) (by omega), H.1 z⟩, H.2⟩
    by_cases y : o = 21
    · have hn : nots (o :: p) = nots p + 1 := by simp only [nots, if_pos y]; omega
      rw [hn] at g7 h3
      obtain ⟨M1, a1, a2, a3⟩ := addM (c := 33) (F1 _ g7) (by omega) (s := 2) (a := 0) (Or.inr (Or.inr (Or.inl ⟨rfl, rfl⟩)))
      have a2' : FM (os ++ [33]) (p ++ s) (dp + nots p) u (x_putI M1 0 23 (M1.1 0 23 - 1)) := by
        obtain ⟨q1, q2, q3, q4, q5, q6, q7, q8⟩ := a2
        refine ⟨by rw [gI_same, up_n _ _ (by decide)]; exact q1, q2, by rw [gI_same, up_n _ _ (by decide)]; exact q3, by rw [gI_same, up_n _ _ (by decide)]; exact q4, by rw [gI_same, up_n _ _ (by decide)]; exact q5, q6, ?_, q8⟩
        rw [gI_same, up_s, q7, show dp + (nots p + 1) = (dp + nots p) + 1 by omega, nI_pred]
      obtain ⟨M2, b1, b2, b3⟩ := ih (os ++ [33]) dp _ a2' (fun x hx => hp x (by simp [hx])) (by simp; omega) (by omega) (by omega)
      refine ⟨M2, fun K H => pre K (br_nt (by rw [y]; rfl) (a1 _ _ _ (b1 K H))), ?_, ((ZM.p0 (by decide)).tr a3).tr ((ZM.p0 (by decide)).tr b3)⟩
      have : os ++ (o :: p).map cod = (os ++ [33]) ++ p.map cod := by simp [cod, y]
      rw [this]; exact b2
    · have hop : o ∈ opL := by
        rcases ho1 with h | h
        · exact absurd h y
        · exact h
      have hn : nots (o :: p) = nots p := by simp only [nots, if_neg y]; omega
      rw [hn] at g7 h3
      obtain ⟨M1, a1, a2, a3⟩ := addM (c := o) (F1 _ g7) (by omega) (s := 3) (a := nI o) (Or.inr (Or.inr (Or.inr ⟨rfl, rfl, (opC o hop).1⟩)))
      obtain ⟨M2, b1, b2, b3⟩ := ih (os ++ [o]) dp _ a2 (fun x hx => hp x (by simp [hx])) (by simp; omega) (by omega) (by omega)
      refine ⟨M2, fun K H => pre K (br_nf (fun z => y ((nEq (b := 21) (by omega) (by omega)).mp z)) (a1 _ _ _ (b1 K H))), ?_, ((ZM.p0 (by decide)).tr a3).tr b3⟩
      have : os ++ (o :: p).map cod = (os ++ [o]) ++ p.map cod := by simp [(opC o hop).2]
      rw [this]; exact b2
theorem hasR1 : ∀ (s : List Nat), s.length ≤ 160 → stk s (M.1 7) → hasR s → ∀ K, K 1 M → B_M_hasRelation_7 hm e (nI s.length - 1) M K := by
  intro s
  induction s with
  | nil => intro _ _ h; exact absurd h (by simp [hasR])
  | cons o s ih =>
    intro hl hs h K H
    simp only [List.length_cons] at hl ⊢
    have b := okp_b h.1
    have tb := tt_b o
    have n20 : ¬ nI o = 20 := fun z => by have := (nEq (b := 20) (by omega) (by omega)).mp z; omega
    rw [nI_pred]
    refine b_M_hasRelation_7 (br_f (nN0 (by omega)) ⟨vIn (by omega) (by omega), ?_⟩)
    rw [nCl (by omega), hs.1]
    refine br_f n20 ⟨vIn (by omega) (by omega), tightM h.1 ?_⟩
    rcases h.2 with h4 | ⟨h4, h5⟩
    · rw [h4]
      refine br_t (by decide) (b_M_hasRelation_41 (br_f (nN0 (by omega)) ⟨vIn (by omega) (by omega), ?_⟩))
      rw [nCl (by omega), hs.1]
      refine br_f n20 ⟨vIn (by omega) (by omega), tightM h.1 ?_⟩
      rw [h4]
      exact br_nt rfl H
    · refine br_f (fun z => by have := (nLe (b := 4) (by omega) (by omega)).mp z; omega) ?_
      have := ih (by omega) hs.2 h5 K H
      rw [add_m1]; exact this
theorem hasR0 {s : List Nat} (hs : tp 4 s) : ∀ (p : List Nat), (p ++ s).length ≤ 160 → stk (p ++ s) (M.1 7) → (∀ o, o ∈ p → okp o ∧ 5 ≤ tt o) → ∀ K, K 0 M → B_M_hasRelation_7 hm e (nI (p ++ s).length - 1) M K := by
  intro p
  induction p with
  | nil =>
    intro hl hk _ K H
    rw [List.nil_append] at hl hk ⊢
    cases s with
    | nil => exact b_M_hasRelation_7 (br_t (by decide) (b_M_hasRelation_41 (br_t (by decide) H)))
    | cons o s' =>
      simp only [List.length_cons] at hl ⊢
      rw [nI_pred]
      refine b_M_hasRelation_7 (br_f (nN0 (by omega)) ⟨vIn (by omega) (by omega), ?_⟩)
      rw [nCl (by omega), hk.1]
      have B : B_M_hasRelation_41 hm e (nI s'.length) M K := by
        refine b_M_hasRelation_41 (br_f (nN0 (by omega)) ⟨vIn (by omega) (by omega), ?_⟩)
        rw [nCl (by omega), hk.1]
        rcases hs o s' rfl with y | ⟨y1, y2⟩
        · exact br_t (by rw [y]; rfl) H
        · have b := okp_b y1
          have tb := tt_b o
          exact br_f (fun z => by have := (nEq (b := 20) (by omega) (by omega)).mp z; omega) ⟨vIn (by omega) (by omega), tightM y1 (br_nf (fun z => by have := (nEq (b := 4) (by omega) (by omega)).mp z; omega) H)⟩
      rcases hs o s' rfl with y | ⟨y1, y2⟩
      · exact br_t (by rw [y]; rfl) B
      · have b := okp_b y1
        have tb := tt_b o
        exact br_f (fun z => by have := (nEq (b := 20) (by omega) (by omega)).mp z; omega) ⟨vIn (by omega) (by omega), tightM y1 (br_t ((nLe (b := 4) (by omega) (by omega)).mpr (by omega)) B)⟩
  | cons o p ih =>
    intro hl hk hp K H
    have hlen : (o :: p ++ s).length = (p ++ s).length + 1 := by simp
    rw [hlen] at hl ⊢
    obtain ⟨y1, y2⟩ := hp o (by simp)
    have hk' : M.1 7 (p ++ s).length = nI o ∧ stk (p ++ s) (M.1 7) := hk
    have b := okp_b y1
    have tb := tt_b o
    rw [nI_pred]
    refine b_M_hasRelation_7 (br_f (nN0 (by omega)) ⟨vIn (by omega) (by omega), ?_⟩)
    rw [nCl (by omega), hk'.1, add_m1]
    exact br_f (fun z => by have := (nEq (b := 20) (by omega) (by omega)).mp z; omega) ⟨vIn (by omega) (by omega), tightM y1 (br_f (fun z => by have := (nLe (b := 4) (by omega) (by omega)).mp z; omega) (ih (by omega) hk'.2 (fun x hx => hp x (by simp [hx])) K H))⟩
theorem mayN1 {st : List Nat} (hs : tp 4 st) (hl : st.length ≤ 160) (h1 : M.1 0 19 = nI st.length) (h2 : stk st (M.1 7)) {K : Int32 → xSt → Prop} (H : K 1 M) : M_M_mayNot hm e M K := by
  refine e_M_mayNot ?_
  rw [h1]
  cases st with
  | nil => exact br_t rfl H
  | cons o s' =>
    simp only [List.length_cons] at hl ⊢
    rw [nI_pred, nCl (by omega), h2.1]
    refine br_f (fun z => by have := (nEq (b := 0) (by omega) (by omega)).mp z; omega) ⟨vIn (by omega) (by omega), ?_⟩
    rcases hs o s' rfl with y | ⟨y1, y2⟩
    · exact br_t (by rw [y]; rfl) H
    · have b := okp_b y1
      have tb := tt_b o
      exact br_f (fun z => by have := (nEq (b := 20) (by omega) (by omega)).mp z; omega) ⟨vIn (by omega) (by omega), tightM y1 (br_f (fun z => by have := (nLe (a := 4) (by omega) (by omega)).mp z; omega) H)⟩
theorem mayN0 {o : Nat} {s' : List Nat} (y1 : okp o) (y2 : 4 ≤ tt o) (hl : (o :: s').length ≤ 160) (h1 : M.1 0 19 = nI (o :: s').length) (h2 : stk (o :: s') (M.1 7)) {K : Int32 → xSt → Prop} (H : K 0 M) : M_M_mayNot hm e M K := by
  refine e_M_mayNot ?_
  rw [h1]
  simp only [List.length_cons] at hl ⊢
  rw [nI_pred, nCl (by omega), h2.1]
  have b := okp_b y1
  have tb := tt_b o
  exact br_f (fun z => by have := (nEq (b := 0) (by omega) (by omega)).mp z; omega) ⟨vIn (by omega) (by omega), br_f (fun z => by have := (nEq (b := 20) (by omega) (by omega)).mp z; omega) ⟨vIn (by omega) (by omega), tightM y1 (br_t ((nLe (a := 4) (by omega) (by omega)).mpr y2) H)⟩⟩
theorem stk_mem {f : Nat → Int32} : ∀ s : List Nat, stk s f → (∀ o, o ∈ s → o = 20 ∨ okp o) → ((∃ i, i < s.length ∧ f i = 20) ↔ 20 ∈ s) := by
  intro s
  induction s with
  | nil => intro _ _; simp
  | cons o s ih =>
    intro h g
    have ih' := ih h.2 (fun x hx => g x (by simp [hx]))
    have hb : o < 125 := by
      rcases g o (by simp) with y | y
      · omega
      · exact (okp_b y).2.1
    constructor
    · rintro ⟨i, hi, hf⟩
      simp only [List.length_cons] at hi
      by_cases y : i = s.length
      · rw [y, h.1] at hf
        have := (nEq (b := 20) (by omega) (by omega)).mp hf
        rw [this]; simp
      · exact List.mem_cons_of_mem _ (ih'.mp ⟨i, by omega, hf⟩)
    · intro hm
      rcases List.mem_cons.mp hm with y | y
      · exact ⟨s.length, by simp, by rw [h.1, ← y]; rfl⟩
      · obtain ⟨i, hi, hf⟩ := ih'.mpr y
        exact ⟨i, by simp; omega, hf⟩
theorem brkM {st : List Nat} (hl : st.length ≤ 160) (h1 : M.1 0 19 = nI st.length) (h2 : stk st (M.1 7)) (h3 : ∀ o, o ∈ st → o = 20 ∨ okp o) {K : Int32 → xSt → Prop} (H : K (if 20 ∈ st then 1 else 0) M) : M_M_hasBracket hm e M K := by
  refine e_M_hasBracket ?_
  refine lp_inv (B := fun i (a : Int32) => B_M_hasBracket_4 hm e a (nI i) M K) (fun i a => (a = 1 ∧ ∃ j, j < i ∧ M.1 7 j = 20) ∨ (a = 0 ∧ ∀ j, j < i → ¬ M.1 7 j = 20)) st.length (fun i a hi hI ih => ?_) (fun a hI => ?_) 0 (Or.inr ⟨rfl, fun j hj => absurd hj (by omega)⟩)
  · refine b_M_hasBracket_4 ?_
    rw [h1]
    refine br_f (nI_ge hi (by omega)) ?_
    rcases hI with ⟨rfl, j, hj, hf⟩ | ⟨rfl, hn⟩
    · refine br_nf (by decide) (b_M_hasBracket_27 (b_M_hasBracket_32 ?_))
      rw [nI_1]
      exact ih 1 (Or.inl ⟨rfl, j, by omega, hf⟩)
    · refine br_nt rfl ⟨vIn (by omega) (by omega), ?_⟩
      rw [nCl (by omega)]
      by_cases y : M.1 7 i = 20
      · refine br_nt y (b_M_hasBracket_27 (b_M_hasBracket_32 ?_))
        rw [nI_1]
        exact ih 1 (Or.inl ⟨rfl, i, by omega, y⟩)
      · refine br_nf y (b_M_hasBracket_32 ?_)
        rw [nI_1]
        refine ih 0 (Or.inr ⟨rfl, fun j hj => ?_⟩)
        by_cases z : j = i
        · rw [z]; exact y
        · exact hn j (by omega)
  · refine b_M_hasBracket_4 ?_
    rw [h1]
    refine br_t (nI_le (Nat.le_refl _) (by omega)) ?_
    have m := stk_mem st h2 h3
    rcases hI with ⟨rfl, hx⟩ | ⟨rfl, hn⟩
    · rw [if_pos (m.mp hx)] at H; exact ⟨zb1, H⟩
    · rw [if_neg (fun z => by obtain ⟨j, hj, hf⟩ := m.mpr z; exact hn j hj hf)] at H; exact ⟨zb0, H⟩
def sgn (k v : Nat) : Nat := if k = 3 ∧ v = 20 then 38 else if k = 3 ∧ v = 19 then 124 else if k = 5 ∧ v = 60 then 60 else if k = 5 ∧ v = 62 then 62 else if k = 5 ∧ v = 61 then 61 else if k = 5 ∧ v = 43 then 43 else if k = 5 ∧ v = 45 then 45 else if k = 5 ∧ v = 42 then 42 else if k = 5 ∧ v = 47 then 47 else if k = 5 ∧ v = 37 then 37 else 0
theorem signM {t : Nat → Nat} {n k v q p : Nat} {l : List Nat} (h : QJ t n k v l q p S M) {K : Int32 → xSt → Prop} (H : K (nI (sgn k v)) M) : M_M_sign hm e M K := by
  have tk := h.1.2.2.2.2.2.1
  have a1 : (M.1 0 6 = 1 ∧ M.2.1 0 9 = 6385252) ↔ (k = 3 ∧ v = 20) := by rw [kc20]; exact (tk_word tk (w := 20) (by omega)).2
  have a2 : (M.1 0 6 = 1 ∧ M.2.1 0 9 = 28530) ↔ (k = 3 ∧ v = 19) := by rw [kc19]; exact (tk_word tk (w := 19) (by omega)).2
  have s60 : M.1 0 6 = 60 ↔ (k = 5 ∧ v = 60) := (tk_sign tk (w := 60) (by decide)).2
  have s62 : M.1 0 6 = 62 ↔ (k = 5 ∧ v = 62) := (tk_sign tk (w := 62) (by decide)).2
  have s61 : M.1 0 6 = 61 ↔ (k = 5 ∧ v = 61) := (tk_sign tk (w := 61) (by decide)).2
  have s43 : M.1 0 6 = 43 ↔ (k = 5 ∧ v = 43) := (tk_sign tk (w := 43) (by decide)).2
  have s45 : M.1 0 6 = 45 ↔ (k = 5 ∧ v = 45) := (tk_sign tk (w := 45) (by decide)).2
  have s42 : M.1 0 6 = 42 ↔ (k = 5 ∧ v = 42) := (tk_sign tk (w := 42) (by decide)).2
  have s47 : M.1 0 6 = 47 ↔ (k = 5 ∧ v = 47) := (tk_sign tk (w := 47) (by decide)).2
  have s37 : M.1 0 6 = 37 ↔ (k = 5 ∧ v = 37) := (tk_sign tk (w := 37) (by decide)).2
  refine m_M_sign ?_
  have step : ∀ {P Q : Prop} [Decidable P] [Decidable Q] {x y : Int32} {m m' : Nat}, (P ↔ Q) → (Q → x = nI m) → (¬ Q → y = nI m') → (if P then x else y) = nI (if Q then m else m') := by
    intro P Q _ _ x y m m' h1 h2 h3
    by_cases c : Q
    · rw [if_pos c, if_pos (h1.mpr c)]; exact h2 c
    · rw [if_neg c, if_neg (fun z => c (h1.mp z))]; exact h3 c
  have e : (if (M.1 0 6 = 1 ∧ M.2.1 0 9 = 6385252) then (38 : Int32) else (if (M.1 0 6 = 1 ∧ M.2.1 0 9 = 28530) then 124 else (if M.1 0 6 = 60 then M.1 0 6 else (if M.1 0 6 = 62 then M.1 0 6 else (if M.1 0 6 = 61 then M.1 0 6 else (if M.1 0 6 = 43 then M.1 0 6 else (if M.1 0 6 = 45 then M.1 0 6 else (if M.1 0 6 = 42 then M.1 0 6 else (if M.1 0 6 = 47 then M.1 0 6 else (if M.1 0 6 = 37 then M.1 0 6 else 0)))))))))) = nI (sgn k v) := by
    unfold sgn
    refine step a1 (fun _ => rfl) (fun _ => step a2 (fun _ => rfl) (fun _ => step s60 (fun z => s60.mpr z) (fun _ => step s62 (fun z => s62.mpr z) (fun _ => step s61 (fun z => s61.mpr z) (fun _ => step s43 (fun z => s43.mpr z) (fun _ => step s45 (fun z => s45.mpr z) (fun _ => step s42 (fun z => s42.mpr z) (fun _ => step s47 (fun z => s47.mpr z) (fun _ => step s37 (fun z => s37.mpr z) (fun _ => rfl))))))))))
  rw [e]; exact H
end
