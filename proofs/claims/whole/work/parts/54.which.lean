section
variable {hc hm : xH} {d e : Nat} {S M : xSt}
theorem kc0 : (7168366 : Int64) = kw8 0 := by decide +kernel
theorem kc1 : (109330211763570 : Int64) = kw8 1 := by decide +kernel
theorem kc2 : (448545973619 : Int64) = kw8 2 := by decide +kernel
theorem kc3 : (1818584692 : Int64) = kw8 3 := by decide +kernel
theorem kc4 : (1684366692 : Int64) = kw8 4 := by decide +kernel
theorem kc5 : (448546566771 : Int64) = kw8 5 := by decide +kernel
theorem kc6 : (108256604483438 : Int64) = kw8 6 := by decide +kernel
theorem kc7 : (28526 : Int64) = kw8 7 := by decide +kernel
theorem kc8 : (25209 : Int64) = kw8 8 := by decide +kernel
theorem kc9 : (1685022067 : Int64) = kw8 9 := by decide +kernel
theorem kc10 : (474148660594 : Int64) = kw8 10 := by decide +kernel
theorem kc11 : (504364296556 : Int64) = kw8 11 := by decide +kernel
theorem kc12 : (127991944667492 : Int64) = kw8 12 := by decide +kernel
theorem kc13 : (418330731890 : Int64) = kw8 13 := by decide +kernel
theorem kc14 : (112641580559972 : Int64) = kw8 14 := by decide +kernel
theorem kc15 : (2003132786 : Int64) = kw8 15 := by decide +kernel
theorem kc16 : (6578553 : Int64) = kw8 16 := by decide +kernel
theorem kc17 : (495874699885 : Int64) = kw8 17 := by decide +kernel
theorem kc18 : (1685217655 : Int64) = kw8 18 := by decide +kernel
theorem kc20 : (6385252 : Int64) = kw8 20 := by decide +kernel
theorem kc19 : (28530 : Int64) = kw8 19 := by decide +kernel
theorem kc21 : (7237492 : Int64) = kw8 21 := by decide +kernel
theorem own_iff (x : Int64) : (x = 7168366 ∨ (x = 109330211763570 ∨ (x = 448545973619 ∨ (x = 1818584692 ∨ (x = 1684366692 ∨ (x = 448546566771 ∨ (x = 108256604483438 ∨ (x = 28526 ∨ (x = 25209 ∨ (x = 1685022067 ∨ (x = 474148660594 ∨ (x = 504364296556 ∨ (x = 127991944667492 ∨ (x = 418330731890 ∨ (x = 112641580559972 ∨ (x = 2003132786 ∨ (x = 6578553 ∨ (x = 495874699885 ∨ (x = 1685217655 ∨ (x = 6385252 ∨ (x = 28530 ∨ x = 7237492))))))))))))))))))))) ↔ ∃ w, w < 22 ∧ x = kw8 w := by
  constructor
  · rintro (h | h | h | h | h | h | h | h | h | h | h | h | h | h | h | h | h | h | h | h | h | h)
    · exact ⟨0, by decide, by rw [h]; exact kc0⟩
    · exact ⟨1, by decide, by rw [h]; exact kc1⟩
    · exact ⟨2, by decide, by rw [h]; exact kc2⟩
    · exact ⟨3, by decide, by rw [h]; exact kc3⟩
    · exact ⟨4, by decide, by rw [h]; exact kc4⟩
    · exact ⟨5, by decide, by rw [h]; exact kc5⟩
    · exact ⟨6, by decide, by rw [h]; exact kc6⟩
    · exact ⟨7, by decide, by rw [h]; exact kc7⟩
    · exact ⟨8, by decide, by rw [h]; exact kc8⟩
    · exact ⟨9, by decide, by rw [h]; exact kc9⟩
    · exact ⟨10, by decide, by rw [h]; exact kc10⟩
    · exact ⟨11, by decide, by rw [h]; exact kc11⟩
    · exact ⟨12, by decide, by rw [h]; exact kc12⟩
    · exact ⟨13, by decide, by rw [h]; exact kc13⟩
    · exact ⟨14, by decide, by rw [h]; exact kc14⟩
    · exact ⟨15, by decide, by rw [h]; exact kc15⟩
    · exact ⟨16, by decide, by rw [h]; exact kc16⟩
    · exact ⟨17, by decide, by rw [h]; exact kc17⟩
    · exact ⟨18, by decide, by rw [h]; exact kc18⟩
    · exact ⟨20, by decide, by rw [h]; exact kc20⟩
    · exact ⟨19, by decide, by rw [h]; exact kc19⟩
    · exact ⟨21, by decide, by rw [h]; exact kc21⟩
  · rintro ⟨w, hw, rfl⟩
    have : ∀ w, w < 22 → (kw8 w = 7168366 ∨ (kw8 w = 109330211763570 ∨ (kw8 w = 448545973619 ∨ (kw8 w = 1818584692 ∨ (kw8 w = 1684366692 ∨ (kw8 w = 448546566771 ∨ (kw8 w = 108256604483438 ∨ (kw8 w = 28526 ∨ (kw8 w = 25209 ∨ (kw8 w = 1685022067 ∨ (kw8 w = 474148660594 ∨ (kw8 w = 504364296556 ∨ (kw8 w = 127991944667492 ∨ (kw8 w = 418330731890 ∨ (kw8 w = 112641580559972 ∨ (kw8 w = 2003132786 ∨ (kw8 w = 6578553 ∨ (kw8 w = 495874699885 ∨ (kw8 w = 1685217655 ∨ (kw8 w = 6385252 ∨ (kw8 w = 28530 ∨ kw8 w = 7237492))))))))))))))))))))) := by decide +kernel
    exact this w hw
/-- no fault yet; the same fault -/
def NF (S M : xSt) : Prop := S.1 19 7 = 0 ∧ S.1 19 8 = -1 ∧ M.1 0 2 = 0 ∧ M.1 0 3 = -1
def FJ (S M : xSt) : Prop := ∃ f : Nat, 1 ≤ f ∧ f ≤ 5 ∧ S.1 19 7 = nI f ∧ M.1 0 2 = nI f ∧ M.1 0 3 = S.1 19 8
def QJ (t : Nat → Nat) (n k v : Nat) (l : List Nat) (q p : Nat) (S M : xSt) : Prop := TJ t n k v l q p S M ∧ NF S M
def fT (S S' : xSt) : Prop := (∀ c, c ≠ 19 → S'.1 c = S.1 c) ∧ (∀ c, c ≠ 19 → S'.2.1 c = S.2.1 c) ∧ S'.2.2 = S.2.2
def fM (M M' : xSt) : Prop := (∀ c, c ≠ 0 → M'.1 c = M.1 c) ∧ (∀ c, c ≠ 0 → M'.2.1 c = M.2.1 c) ∧ ∀ j, j < 2 ∨ 8 < j → M'.1 0 j = M.1 0 j
theorem fT.rf (S : xSt) : fT S S := ⟨fun _ _ => rfl, fun _ _ => rfl, rfl⟩
theorem fM.rf (S : xSt) : fM S S := ⟨fun _ _ => rfl, fun _ _ => rfl, fun _ _ => rfl⟩
theorem fT.tr {S1 S2 S3 : xSt} (h : fT S1 S2) (g : fT S2 S3) : fT S1 S3 := ⟨fun c a => (g.1 c a).trans (h.1 c a), fun c a => (g.2.1 c a).trans (h.2.1 c a), g.2.2.trans h.2.2⟩
theorem fM.tr {S1 S2 S3 : xSt} (h : fM S1 S2) (g : fM S2 S3) : fM S1 S3 := ⟨fun c a => (g.1 c a).trans (h.1 c a), fun c a => (g.2.1 c a).trans (h.2.1 c a), fun j a => (g.2.2 j a).trans (h.2.2 j a)⟩
theorem FT.w {S' : xSt} (h : FT S S') : fT S S' := ⟨h.1, h.2.1, h.2.2.1⟩
theorem FTM.w {M' : xSt} (h : FTM M M') : fM M M' := ⟨h.1, h.2.1, fun j hj => h.2.2.2 j (by omega) (by omega) (by omega) (by omega)⟩
section
variable {t : Nat → Nat} {n k v q p : Nat} {l : List Nat}
theorem advJ (h : QJ t n k v l q p S M) (hk : 2 ≤ k) : ∃ S' M' k' v' l' q' p', (∀ K, K S' → M_Tk_advance hc d S K) ∧ (∀ K, K M' → M_M_token hm e M K) ∧ fT S S' ∧ fM M M' ∧ QJ t n k' v' l' q' p' S' M' ∧ p ≤ q' ∧ k' ≤ 5 := by
  obtain ⟨⟨a1, a2, a3, a4, a5, a6, a7⟩, b1, b2, b3, b4⟩ := h
  obtain ⟨c1, c2, c3, c4⟩ := a7 hk
  obtain ⟨S', M', k', v', l', q', p', r1, r2, r3, r4, r5, r6, r7⟩ := adv0 (hc := hc) (hm := hm) (d := d) (e := e) a1 a2 c4 c1 c2
  refine ⟨S', M', k', v', l', q', p', r1, r2, r3.w, r4.w, ⟨r5, ?_, ?_, ?_, ?_⟩, r6, r7⟩
  · rw [r3.2.2.2 7 (by omega)]; exact b1
  · rw [r3.2.2.2 8 (by omega)]; exact b2
  · rw [r4.2.2.2 2 (by decide) (by decide) (by decide) (by decide)]; exact b3
  · rw [r4.2.2.2 3 (by decide) (by decide) (by decide) (by decide)]; exact b4
theorem tk_bad (h : TokR k v l S M) : (S.1 19 4 = 1 ↔ k = 1) ∧ (M.1 0 6 = 3 ↔ k = 1) := by
  obtain ⟨h1, h2⟩ := h
  rw [h1]
  have sg3 : ∀ v, v ∈ sgL → ¬ nI v = 3 := by decide
  rcases h2 with ⟨rfl, h2⟩ | ⟨rfl, h2⟩ | ⟨rfl, h2, -⟩ | ⟨rfl, -, -, h2, -⟩ | ⟨rfl, -, -, h2, -⟩ | ⟨rfl, hv, -, h2⟩
  · rw [h2]; decide
  · rw [h2]; decide
  · rw [h2]; decide
  · rw [h2]; decide
  · rw [h2]; decide
  · rw [h2]; exact ⟨by decide, ⟨fun z => absurd z (sg3 v hv), fun z => absurd z (by decide)⟩⟩
/-- a fault is told, here -/
theorem refJ (h : QJ t n k v l q p S M) {f : Nat} (h1 : 1 ≤ f) (h5 : f ≤ 5) : ∃ S' M', (∀ hc d K, K 0 S' → M_Tk_refuse hc d (nI f) S K) ∧ (∀ hm e K, K M' → M_M_wrong hm e (nI f) M K) ∧ fT S S' ∧ fM M M' ∧ FJ S' M' ∧ M'.1 0 2 = nI (if k = 1 then 1 else f) := by
  obtain ⟨⟨a1, a2, a3, a4, a5, a6, a7⟩, b1, b2, b3, b4⟩ := h
  obtain ⟨t1, t2⟩ := tk_bad a6
  have fr : ∀ f : Int32, fT S (x_putI (x_putI S 19 7 f) 19 8 (nI q)) := fun f => ⟨fun c hc => by rw [gI_ne _ _ _ hc, gI_ne _ _ _ hc], fun _ _ => rfl, rfl⟩
  have fr2 : ∀ f : Int32, fM M (x_putI (x_putI M 0 2 f) 0 3 (nI q)) := fun f => ⟨fun c hc => by rw [gI_ne _ _ _ hc, gI_ne _ _ _ hc], fun _ _ => rfl, fun j hj => by rw [gI_same, up_n _ _ (by omega), gI_same, up_n _ _ (by omega)]⟩
  by_cases c : k = 1
  · refine ⟨x_putI (x_putI S 19 7 (nI 1)) 19 8 (nI q), x_putI (x_putI M 0 2 (nI 1)) 0 3 (nI q), fun hc d K H => e_Tk_refuse (br_nt (t1.mpr c) (e_Tk_refuseAt ?_)), fun hm e K H => e_M_wrong (br_t (by rw [b3]; decide) (br_nt (t2.mpr c) (b_M_wrong_22 ?_))), fr _, fr2 _, ⟨1, by omega, by omega, rfl, rfl, rfl⟩, by rw [if_pos c]; rfl⟩
    · rw [a3]; exact ⟨zb0, H⟩
    · rw [a4]; exact H
  · refine ⟨x_putI (x_putI S 19 7 (nI f)) 19 8 (nI q), x_putI (x_putI M 0 2 (nI f)) 0 3 (nI q), fun hc d K H => e_Tk_refuse (br_nf (fun z => c (t1.mp z)) (e_Tk_refuseAt ?_)), fun hm e K H => e_M_wrong (br_t (by rw [b3]; decide) (br_nf (fun z => c (t2.mp z)) (b_M_wrong_22 ?_))), fr _, fr2 _, ⟨f, h1, h5, rfl, rfl, rfl⟩, by rw [if_neg c]; rfl⟩
    · rw [a3]; exact ⟨zb0, H⟩
    · rw [a4]; exact H
-- which token it is
theorem tk_word (h : TokR k v l S M) {w : Nat} (hw : w < 22) : ((S.1 19 4 = 3 ∧ S.1 19 5 = nI w) ↔ (k = 3 ∧ v = w)) ∧ ((M.1 0 6 = 1 ∧ M.2.1 0 9 = kw8 w) ↔ (k = 3 ∧ v = w)) := by
  obtain ⟨h1, h2⟩ := h
  rw [h1]
  have sg3 : ∀ v, v ∈ sgL → ¬ nI v = 1 := by decide
  rcases h2 with ⟨rfl, h2⟩ | ⟨rfl, h2⟩ | ⟨rfl, h2, h3, h4, h5, h6⟩ | ⟨rfl, hv, h3, h2, h4⟩ | ⟨rfl, -, -, h2, -⟩ | ⟨rfl, hv, -, h2⟩
  · rw [h2]; exact ⟨⟨fun z => absurd z.1 (by decide), fun z => absurd z.1 (by decide)⟩, ⟨fun z => absurd z.1 (by decide), fun z => absurd z.1 (by decide)⟩⟩
  · rw [h2]; exact ⟨⟨fun z => absurd z.1 (by decide), fun z => absurd z.1 (by decide)⟩, ⟨fun z => absurd z.1 (by decide), fun z => absurd z.1 (by decide)⟩⟩
  · refine ⟨⟨fun z => absurd z.1 (by decide), fun z => absurd z.1 (by decide)⟩, ⟨fun z => ?_, fun z => absurd z.1 (by decide)⟩⟩
    have z2 := z.2
    rw [h4] at z2
    have := (L8_inj h5 (kwl_ok w hw).1).mp z2
    rw [this] at h6
    exact absurd (kwl_ok w hw).2 h6
  · rw [h2, h3, h4]
    refine ⟨⟨fun z => ⟨rfl, (nEq (by omega) (by omega)).mp z.2⟩, fun z => ⟨rfl, by rw [z.2]⟩⟩, ⟨fun z => ⟨rfl, ?_⟩, fun z => ⟨rfl, by rw [z.2]⟩⟩⟩
    exact (kwl_inj v hv w hw).mp ((L8_inj (kwl_ok v hv).1 (kwl_ok w hw).1).mp z.2)
  · rw [h2]; exact ⟨⟨fun z => absurd z.1 (by decide), fun z => absurd z.1 (by decide)⟩, ⟨fun z => absurd z.1 (by decide), fun z => absurd z.1 (by decide)⟩⟩
  · rw [h2]; exact ⟨⟨fun z => absurd z.1 (by decide), fun z => absurd z.1 (by decide)⟩, ⟨fun z => absurd z.1 (sg3 v hv), fun z => absurd z.1 (by decide)⟩⟩
theorem tk_sign (h : TokR k v l S M) {w : Nat} (hw : w ∈ sgL) : ((S.1 19 4 = 5 ∧ S.1 19 5 = nI w) ↔ (k = 5 ∧ v = w)) ∧ (M.1 0 6 = nI w ↔ (k = 5 ∧ v = w)) := by
  obtain ⟨h1, h2⟩ := h
  rw [h1]
  have lo : ∀ v, v ∈ sgL → 10 ≤ v ∧ v < 100 := by decide
  have w10 := lo w hw
  have ne : ∀ a, a < 10 → ¬ nI a = nI w := fun a ha z => by have := (nEq (by omega) (by omega)).mp z; omega
  rcases h2 with ⟨rfl, h2⟩ | ⟨rfl, h2⟩ | ⟨rfl, h2, -⟩ | ⟨rfl, -, -, h2, -⟩ | ⟨rfl, -, -, h2, -⟩ | ⟨rfl, hv, h3, h2⟩
  · rw [h2]; exact ⟨⟨fun z => absurd z.1 (by decide), fun z => absurd z.1 (by decide)⟩, ⟨fun z => absurd z (ne 0 (by omega)), fun z => absurd z.1 (by decide)⟩⟩
  · rw [h2]; exact ⟨⟨fun z => absurd z.1 (by decide), fun z => absurd z.1 (by decide)⟩, ⟨fun z => absurd z (ne 3 (by omega)), fun z => absurd z.1 (by decide)⟩⟩
  · rw [h2]; exact ⟨⟨fun z => absurd z.1 (by decide), fun z => absurd z.1 (by decide)⟩, ⟨fun z => absurd z (ne 1 (by omega)), fun z => absurd z.1 (by decide)⟩⟩
  · rw [h2]; exact ⟨⟨fun z => absurd z.1 (by decide), fun z => absurd z.1 (by decide)⟩, ⟨fun z => absurd z (ne 1 (by omega)), fun z => absurd z.1 (by decide)⟩⟩
  · rw [h2]; exact ⟨⟨fun z => absurd z.1 (by decide), fun z => absurd z.1 (by decide)⟩, ⟨fun z => absurd z (ne 2 (by omega)), fun z => absurd z.1 (by decide)⟩⟩
  · have v10 := lo v hv
    rw [h2, h3]
    exact ⟨⟨fun z => ⟨rfl, (nEq (by omega) (by omega)).mp z.2⟩, fun z => ⟨rfl, by rw [z.2]⟩⟩, ⟨fun z => ⟨rfl, (nEq (by omega) (by omega)).mp z⟩, fun z => by rw [z.2]⟩⟩
theorem tk_num (h : TokR k v l S M) : (S.1 19 4 = 4 ↔ k = 4) ∧ (M.1 0 6 = 2 ↔ k = 4) ∧ (k = 4 → v ≤ 9999 ∧ S.1 19 5 = nI v ∧ M.1 0 8 = nI v) := by
  obtain ⟨h1, h2⟩ := h
  rw [h1]
  have sg3 : ∀ v, v ∈ sgL → ¬ nI v = 2 := by decide
  rcases h2 with ⟨rfl, h2⟩ | ⟨rfl, h2⟩ | ⟨rfl, h2, -⟩ | ⟨rfl, -, -, h2, -⟩ | ⟨rfl, hv, h3, h2, h4⟩ | ⟨rfl, hv, -, h2⟩
  · rw [h2]; exact ⟨by decide, by decide, fun z => absurd z (by decide)⟩
  · rw [h2]; exact ⟨by decide, by decide, fun z => absurd z (by decide)⟩
  · rw [h2]; exact ⟨by decide, by decide, fun z => absurd z (by decide)⟩
  · rw [h2]; exact ⟨by decide, by decide, fun z => absurd z (by decide)⟩
  · rw [h2]; exact ⟨by decide, by decide, fun _ => ⟨hv, h3, h4⟩⟩
  · rw [h2]; exact ⟨by decide, ⟨fun z => absurd z (sg3 v hv), fun z => absurd z (by decide)⟩, fun z => absurd z (by decide)⟩
theorem tk_end (h : TokR k v l S M) : (S.1 19 4 = 0 ↔ k = 0) ∧ (M.1 0 6 = 0 ↔ k = 0) := by
  obtain ⟨h1, h2⟩ := h
  rw [h1]
  have sg3 : ∀ v, v ∈ sgL → ¬ nI v = 0 := by decide
  rcases h2 with ⟨rfl, h2⟩ | ⟨rfl, h2⟩ | ⟨rfl, h2, -⟩ | ⟨rfl, -, -, h2, -⟩ | ⟨rfl, hv, h3, h2, h4⟩ | ⟨rfl, hv, -, h2⟩
  · rw [h2]; decide
  · rw [h2]; decide
  · rw [h2]; decide
  · rw [h2]; decide
  · rw [h2]; decide
  · rw [h2]; exact ⟨by decide, ⟨fun z => absurd z (sg3 v hv), fun z => absurd z (by decide)⟩⟩
theorem tk_name (h : TokR k v l S M) {hm : xH} {e : Nat} {K : Int32 → xSt → Prop} (H : K (if k = 2 then 1 else 0) M) : (S.1 19 4 = 2 ↔ k = 2) ∧ M_M_isName hm e M K := by
  obtain ⟨h1, h2⟩ := h
  have sg3 : ∀ v, v ∈ sgL → ¬ nI v = 1 := by decide
  have no : ¬ M.1 0 6 = 1 → ¬ k = 2 → M_M_isName hm e M K := fun a b => m_M_isName (by rw [bi_neg (fun z => a z.1)]; rw [if_neg b] at H; exact H)
  rw [h1]
  rcases h2 with ⟨rfl, h2⟩ | ⟨rfl, h2⟩ | ⟨rfl, h2, h3, h4, h5, h6⟩ | ⟨rfl, hv, h3, h2, h4⟩ | ⟨rfl, hv, h3, h2, h4⟩ | ⟨rfl, hv, -, h2⟩
  · exact ⟨by decide, no (by rw [h2]; decide) (by decide)⟩
  · exact ⟨by decide, no (by rw [h2]; decide) (by decide)⟩
  · refine ⟨by decide, m_M_isName ?_⟩
    have nz : ∀ z : (∃ w, w < 22 ∧ M.2.1 0 9 = kw8 w), False := fun z => by
      obtain ⟨w, hw, e⟩ := z
      rw [h4] at e
      have := (L8_inj h5 (kwl_ok w hw).1).mp e
      rw [this] at h6
      exact h6 (kwl_ok w hw).2
    rw [bi_pos ⟨h2, fun z => nz ((own_iff _).mp z)⟩]
    exact H
  · refine ⟨by decide, m_M_isName ?_⟩
    rw [bi_neg (fun z => z.2 ((own_iff _).mpr ⟨v, hv, h4⟩))]
    exact H
  · exact ⟨by decide, no (by rw [h2]; decide) (by decide)⟩
  · exact ⟨by decide, no (by rw [h2]; exact sg3 v hv) (by decide)⟩
end
end
