section
variable {hc hm : xH} {d e : Nat} {S M : xSt}
section
variable {t : Nat → Nat} {n k v q p nm nd nb nf hd st : Nat} {l : List Nat}
theorem sk0 (h : QJ t n k v l q p S M) (c : ¬ (k = 3 ∧ v = 0) ∨ 6 ≤ M.1 0 49) {K : xSt → Prop} (H : B_M_readLine_26 hm e M K) : M_M_readLine hm e M K := by
  refine e_M_readLine (wordM (w := 0) h (by omega) kc0 ?_)
  by_cases y : k = 3 ∧ v = 0
  · rw [if_pos y]
    refine br_f (by decide) (br_t ?_ H)
    rcases c with c | c
    · exact absurd y c
    · exact c
  · rw [if_neg y]; exact br_t rfl H
theorem sk4 (h : QJ t n k v l q p S M) (c : ¬ (k = 3 ∧ v = 4) ∨ 6 ≤ M.1 0 50) {K : xSt → Prop} (H : B_M_readLine_52 hm e M K) : B_M_readLine_26 hm e M K := by
  refine b_M_readLine_26 (wordM (w := 4) h (by omega) kc4 ?_)
  by_cases y : k = 3 ∧ v = 4
  · rw [if_pos y]
    refine br_f (by decide) (br_t ?_ H)
    rcases c with c | c
    · exact absurd y c
    · exact c
  · rw [if_neg y]; exact br_t rfl H
theorem sk6 (h : QJ t n k v l q p S M) (c : ¬ (k = 3 ∧ v = 6) ∨ 10 ≤ M.1 0 51) {K : xSt → Prop} (H : B_M_readLine_78 hm e M K) : B_M_readLine_52 hm e M K := by
  refine b_M_readLine_52 (wordM (w := 6) h (by omega) kc6 ?_)
  by_cases y : k = 3 ∧ v = 6
  · rw [if_pos y]
    refine br_f (by decide) (br_t ?_ H)
    rcases c with c | c
    · exact absurd y c
    · exact c
  · rw [if_neg y]; exact br_t rfl H
theorem sk14 (h : QJ t n k v l q p S M) (c : ¬ (k = 3 ∧ v = 14) ∨ 15 ≤ M.1 0 52) {K : xSt → Prop} (H : B_M_readLine_104 hm e M K) : B_M_readLine_78 hm e M K := by
  refine b_M_readLine_78 (wordM (w := 14) h (by omega) kc14 ?_)
  by_cases y : k = 3 ∧ v = 14
  · rw [if_pos y]
    refine br_f (by decide) (br_t ?_ H)
    rcases c with c | c
    · exact absurd y c
    · exact c
  · rw [if_neg y]; exact br_t rfl H
theorem sk15 (h : QJ t n k v l q p S M) (c : ¬ (k = 3 ∧ v = 15) ∨ ¬ M.1 0 62 = 0) {K : xSt → Prop} (H : B_M_readLine_133 hm e M K) : B_M_readLine_104 hm e M K := by
  refine b_M_readLine_104 (wordM (w := 15) h (by omega) kc15 ?_)
  by_cases y : k = 3 ∧ v = 15
  · rw [if_pos y]
    refine br_f (by decide) (br_nf ?_ H)
    rcases c with c | c
    · exact absurd y c
    · exact c
  · rw [if_neg y]; exact br_t rfl H
theorem sk16 (h : QJ t n k v l q p S M) (c : ¬ (k = 3 ∧ v = 16) ∨ ¬ M.1 0 63 = 0) {K : xSt → Prop} (H : B_M_readLine_172 hm e M K) : B_M_readLine_133 hm e M K := by
  refine b_M_readLine_133 (wordM (w := 16) h (by omega) kc16 ?_)
  by_cases y : k = 3 ∧ v = 16
  · rw [if_pos y]
    refine br_f (by decide) (br_nf ?_ H)
    rcases c with c | c
    · exact absurd y c
    · exact c
  · rw [if_neg y]; exact br_t rfl H
theorem sk17 (h : QJ t n k v l q p S M) (c : ¬ (k = 3 ∧ v = 17) ∨ ¬ M.1 0 64 = 0) {K : xSt → Prop} (H : B_M_readLine_211 hm e M K) : B_M_readLine_172 hm e M K := by
  refine b_M_readLine_172 (wordM (w := 17) h (by omega) kc17 ?_)
  by_cases y : k = 3 ∧ v = 17
  · rw [if_pos y]
    refine br_f (by decide) (br_nf ?_ H)
    rcases c with c | c
    · exact absurd y c
    · exact c
  · rw [if_neg y]; exact br_t rfl H
theorem sk18 (h : QJ t n k v l q p S M) (c : ¬ (k = 3 ∧ v = 18) ∨ ¬ M.1 0 65 = 0) {K : xSt → Prop} (H : B_M_readLine_251 hm e M K) : B_M_readLine_211 hm e M K := by
  refine b_M_readLine_211 (wordM (w := 18) h (by omega) kc18 ?_)
  by_cases y : k = 3 ∧ v = 18
  · rw [if_pos y]
    refine br_f (by decide) (br_nf ?_ H)
    rcases c with c | c
    · exact absurd y c
    · exact c
  · rw [if_neg y]; exact br_t rfl H
def LO (hc hm : xH) (d e : Nat) (t : Nat → Nat) (n q x : Nat) (S M : xSt) : Prop := (∃ S' M', (∀ K, B_Rd_readText_251 hc d 1 (nI x) S' K → B_Rd_readText_26 hc d 1 (nI x) S K) ∧ (∀ K, B_M_readLine_256 hm e M' K → M_M_readLine hm e M K) ∧ FPc S S' ∧ FPm M M' ∧ (∃ k v l q' p', QJ t n k v l q' p' S' M' ∧ q < q' ∧ k ≤ 5) ∧ ∃ nm nd nb nf hd st, DR nm nd nb nf hd st S' M') ∨ (∃ S' M', (∀ K, B_Rd_readText_251 hc d 0 (nI x) S' K → B_Rd_readText_26 hc d 1 (nI x) S K) ∧ (∀ K, B_M_readLine_256 hm e M' K → M_M_readLine hm e M K) ∧ FPc S S' ∧ FPm M M' ∧ FJ S' M')
theorem useLJ {x : Nat} {P : (Int32 → xSt → Prop) → Prop} {Q : (xSt → Prop) → Prop} (h : LJ t n p P Q S M) (hqp : q < p) (hP : ∀ K, P (fun r S' => B_Rd_readText_251 hc d r (nI x) S' K) → B_Rd_readText_26 hc d 1 (nI x) S K) (hQ : ∀ K, Q (fun M' => B_M_readLine_256 hm e M' K) → M_M_readLine hm e M K) : LO hc hm d e t n q x S M := by
  rcases h with ⟨S', M', a1, a2, a3, a4, ⟨k', v', l', q', p', a5, a6, a7⟩, a8⟩ | ⟨S', M', a1, a2, a3, a4, a5⟩
  · exact Or.inl ⟨S', M', fun K H => hP K (a1 _ H), fun K H => hQ K (a2 _ H), a3, a4, ⟨k', v', l', q', p', a5, by omega, a7⟩, a8⟩
  · exact Or.inr ⟨S', M', fun K H => hP K (a1 _ H), fun K H => hQ K (a2 _ H), a3, a4, a5⟩
theorem tk_w3 (h : TokR 3 v l S M) : v < 22 ∧ S.1 19 5 = nI v := by
  obtain ⟨-, h2⟩ := h
  rcases h2 with ⟨h0, -⟩ | ⟨h0, -⟩ | ⟨h0, -⟩ | ⟨-, h3, h4, -⟩ | ⟨h0, -⟩ | ⟨h0, -⟩
  · omega
  · omega
  · omega
  · exact ⟨h3, h4⟩
  · omega
  · omega
theorem lineJ (h : QJ t n k v l q p S M) (k0 : k ≠ 0) (hk : k ≤ 5) (hD : DR nm nd nb nf hd st S M) {x : Nat} (hx : x < 1600) : LO hc hm d e t n q x S M := by
  have tk := h.1.2.2.2.2.2.1
  have k4 : S.1 19 4 = nI k := tk.1
  obtain ⟨S', M', r1, r2, r3, r4, r5, -⟩ := refJ h (f := 2) (by omega) (by omega)
  have pre : ∀ K, ((¬ S.1 19 4 = 3 → B_Rd_readText_70 hc d (nI x) (-1) S K) ∧ (S.1 19 4 = 3 → B_Rd_readText_70 hc d (nI x) (S.1 19 5) S K)) → B_Rd_readText_26 hc d 1 (nI x) S K := fun K H => b_Rd_readText_26 (br_f (nI_ge (b := 1600) hx (by omega)) (br_f (by decide) (br_f (fun z => k0 ((tk_end tk).1.mp z)) H)))
  have em : S.1 21 0 = nI nm := hD.1.1.1
  have em4 : S.1 21 4 = nI nd := hD.1.2.1.1
  have em6 : S.1 21 6 = nI nb := hD.1.2.2.1.1
  have em14 : S.1 21 14 = nI nf := hD.1.2.2.2.1.1
  have mm : M.1 0 49 = nI nm := by rw [hD.2.1.1.1]; exact em
  have mm4 : M.1 0 50 = nI nd := by rw [hD.2.1.1.2.1]; exact em4
  have mm6 : M.1 0 51 = nI nb := by rw [hD.2.1.1.2.2.1]; exact em6
  have mm14 : M.1 0 52 = nI nf := by rw [hD.2.1.1.2.2.2.1]; exact em14
  have nm6 := hD.1.1.2
  have nd6 := hD.1.2.1.2
  have nb10 := hD.1.2.2.1.2
  have nf15 := hD.1.2.2.2.1.2
  obtain ⟨a1, b1, c1, d1, x1, x2, x3, x4, x5⟩ := hD.2.2.2.2.2.1
  -- the word that is taken
  have fl : (∀ K, M_Tk_refuse hc (d + 76) 2 S (fun r S1 => B_Rd_readText_251 hc d r (nI x) S1 K) → B_Rd_readText_26 hc d 1 (nI x) S K) → (∀ K, B_M_readLine_251 hm e M K → M_M_readLine hm e M K) → LO hc hm d e t n q x S M := fun g1 g2 => Or.inr ⟨S', M', fun K H => g1 K (r1 _ _ _ H), fun K H => g2 K (b_M_readLine_251 (r2 _ _ _ H)), r3.pc, r4.pm, r5⟩
  have fl' : (∀ K, B_Rd_readText_251 hc d 0 (nI x) S' K → B_Rd_readText_26 hc d 1 (nI x) S K) → (∀ K, B_M_readLine_251 hm e M K → M_M_readLine hm e M K) → LO hc hm d e t n q x S M := fun g1 g2 => Or.inr ⟨S', M', g1, fun K H => g2 K (b_M_readLine_251 (r2 _ _ _ H)), r3.pc, r4.pm, r5⟩
  by_cases y3 : k = 3
  · subst y3
    have hqp := (h.1.2.2.2.2.2.2 (by omega)).2.2.1
    obtain ⟨v22, val⟩ := tk_w3 tk
    have k43 : S.1 19 4 = 3 := k4
    have ne : ∀ w, v ≠ w → ¬ (3 = 3 ∧ v = w) := fun w hw z => hw z.2
    by_cases w0 : v = 0
    · subst w0
      have pw : ∀ K, M_Rd_readMan hc (d + 65) S (fun r S1 => B_Rd_readText_251 hc d r (nI x) S1 K) → B_Rd_readText_26 hc d 1 (nI x) S K := by
        intro K H
        refine pre K (br_nt k43 ?_)
        rw [val]
        exact b_Rd_readText_70 ⟨fun z => absurd z (by decide), fun _ => H, fun z => absurd z (by decide), fun z => absurd z (by decide), fun z => absurd z (by decide), fun z => absurd z (by decide), fun z => absurd z (by decide), fun z => absurd z (by decide), fun z => absurd z (by decide), fun z => absurd z (by decide), fun z => absurd z (by decide), fun z => absurd z (by decide), fun z => absurd z (by decide), fun z => absurd z (by decide), fun z => absurd z (by decide), fun z => absurd z (by decide), fun z => absurd z (by decide), fun z => absurd z (by decide), fun z => absurd z (by decide), fun z => absurd z (by decide)⟩
      by_cases y : nm < 6
      · exact useLJ (lineMan (d := d + 65) (e := e) (hc := hc) (hm := hm) h (by omega)  hD y) hqp pw (fun K H => e_M_readLine (wordM (w := 0) h (by omega) kc0 (by rw [if_pos ⟨rfl, rfl⟩]; exact br_f (by decide) (br_f (by rw [mm]; exact fun z => by have := (nLe (a := 6) (by omega) (by omega)).mp z; omega) H))))
      · refine fl' (fun K H => pw K (e_Rd_readMan ?_)) (fun K H => sk0 h (Or.inr (by rw [mm]; exact (nLe (a := 6) (by omega) (by omega)).mpr (by omega))) (sk4 h (Or.inl (ne 4 (by decide))) (sk6 h (Or.inl (ne 6 (by decide))) (sk14 h (Or.inl (ne 14 (by decide))) (sk15 h (Or.inl (ne 15 (by decide))) (sk16 h (Or.inl (ne 16 (by decide))) (sk17 h (Or.inl (ne 17 (by decide))) (sk18 h (Or.inl (ne 18 (by decide))) (H)))))))))
        rw [em]
        exact e_Rd_opens (br_f (fun z => y ((nLt (b := 6) (by omega) (by omega)).mp z)) (r1 _ _ _ ⟨zb0, br_t rfl H⟩))
    by_cases w4 : v = 4
    · subst w4
      have pw : ∀ K, M_Rd_readDeed hc (d + 66) S (fun r S1 => B_Rd_readText_251 hc d r (nI x) S1 K) → B_Rd_readText_26 hc d 1 (nI x) S K := by
        intro K H
        refine pre K (br_nt k43 ?_)
        rw [val]
        exact b_Rd_readText_70 ⟨fun z => absurd z (by decide), fun z => absurd z (by decide), fun z => absurd z (by decide), fun z => absurd z (by decide), fun z => absurd z (by decide), fun _ => H, fun z => absurd z (by decide), fun z => absurd z (by decide), fun z => absurd z (by decide), fun z => absurd z (by decide), fun z => absurd z (by decide), fun z => absurd z (by decide), fun z => absurd z (by decide), fun z => absurd z (by decide), fun z => absurd z (by decide), fun z => absurd z (by decide), fun z => absurd z (by decide), fun z => absurd z (by decide), fun z => absurd z (by decide), fun z => absurd z (by decide)⟩
      by_cases y : nd < 6
      · exact useLJ (lineDeed (d := d + 66) (e := e + 1) (hc := hc) (hm := hm) h (by omega)  hD y) hqp pw (fun K H => sk0 h (Or.inl (ne 0 (by decide))) (b_M_readLine_26 (wordM (w := 4) h (by omega) kc4 (by rw [if_pos ⟨rfl, rfl⟩]; exact br_f (by decide) (br_f (by rw [mm4]; exact fun z => by have := (nLe (a := 6) (by omega) (by omega)).mp z; omega) H)))))
      · refine fl' (fun K H => pw K (e_Rd_readDeed ?_)) (fun K H => sk0 h (Or.inl (ne 0 (by decide))) (sk4 h (Or.inr (by rw [mm4]; exact (nLe (a := 6) (by omega) (by omega)).mpr (by omega))) (sk6 h (Or.inl (ne 6 (by decide))) (sk14 h (Or.inl (ne 14 (by decide))) (sk15 h (Or.inl (ne 15 (by decide))) (sk16 h (Or.inl (ne 16 (by decide))) (sk17 h (Or.inl (ne 17 (by decide))) (sk18 h (Or.inl (ne 18 (by decide))) (H)))))))))
        rw [em4]
        exact e_Rd_opens (br_f (fun z => y ((nLt (b := 6) (by omega) (by omega)).mp z)) (r1 _ _ _ ⟨zb0, br_t rfl H⟩))
    by_cases w6 : v = 6
    · subst w6
      have pw : ∀ K, M_Rd_readButton hc (d + 65) S (fun r S1 => B_Rd_readText_251 hc d r (nI x) S1 K) → B_Rd_readText_26 hc d 1 (nI x) S K := by
        intro K H
        refine pre K (br_nt k43 ?_)
        rw [val]
        exact b_Rd_readText_70 ⟨fun z => absurd z (by decide), fun z => absurd z (by decide), fun z => absurd z (by decide), fun z => absurd z (by decide), fun z => absurd z (by decide), fun z => absurd z (by decide), fun z => absurd z (by decide), fun _ => H, fun z => absurd z (by decide), fun z => absurd z (by decide), fun z => absurd z (by decide), fun z => absurd z (by decide), fun z => absurd z (by decide), fun z => absurd z (by decide), fun z => absurd z (by decide), fun z => absurd z (by decide), fun z => absurd z (by decide), fun z => absurd z (by decide), fun z => absurd z (by decide), fun z => absurd z (by decide)⟩
      by_cases y : nb < 10
      · exact useLJ (lineButton (d := d + 65) (e := e) (hc := hc) (hm := hm) h (by omega)  hD y) hqp pw (fun K H => sk0 h (Or.inl (ne 0 (by decide))) (sk4 h (Or.inl (ne 4 (by decide))) (b_M_readLine_52 (wordM (w := 6) h (by omega) kc6 (by rw [if_pos ⟨rfl, rfl⟩]; exact br_f (by decide) (br_f (by rw [mm6]; exact fun z => by have := (nLe (a := 10) (by omega) (by omega)).mp z; omega) H))))))
      · refine fl' (fun K H => pw K (e_Rd_readButton ?_)) (fun K H => sk0 h (Or.inl (ne 0 (by decide))) (sk4 h (Or.inl (ne 4 (by decide))) (sk6 h (Or.inr (by rw [mm6]; exact (nLe (a := 10) (by omega) (by omega)).mpr (by omega))) (sk14 h (Or.inl (ne 14 (by decide))) (sk15 h (Or.inl (ne 15 (by decide))) (sk16 h (Or.inl (ne 16 (by decide))) (sk17 h (Or.inl (ne 17 (by decide))) (sk18 h (Or.inl (ne 18 (by decide))) (H)))))))))
        rw [em6]
        exact e_Rd_opens (br_f (fun z => y ((nLt (b := 10) (by omega) (by omega)).mp z)) (r1 _ _ _ ⟨zb0, br_t rfl H⟩))
    by_cases w14 : v = 14
    · subst w14
      have pw : ∀ K, M_Rd_readFriend hc (d + 66) S (fun r S1 => B_Rd_readText_251 hc d r (nI x) S1 K) → B_Rd_readText_26 hc d 1 (nI x) S K := by
        intro K H
        refine pre K (br_nt k43 ?_)
        rw [val]
        exact b_Rd_readText_70 ⟨fun z => absurd z (by decide), fun z => absurd z (by decide), fun z => absurd z (by decide), fun z => absurd z (by decide), fun z => absurd z (by decide), fun z => absurd z (by decide), fun z => absurd z (by decide), fun z => absurd z (by decide), fun z => absurd z (by decide), fun z => absurd z (by decide), fun z => absurd z (by decide), fun z => absurd z (by decide), fun z => absurd z (by decide), fun z => absurd z (by decide), fun z => absurd z (by decide), fun _ => H, fun z => absurd z (by decide), fun z => absurd z (by decide), fun z => absurd z (by decide), fun z => absurd z (by decide)⟩
      by_cases y : nf < 15
      · exact useLJ (lineFriend (d := d + 66) (e := e + 2) (hc := hc) (hm := hm) h (by omega)  hD y) hqp pw (fun K H => sk0 h (Or.inl (ne 0 (by decide))) (sk4 h (Or.inl (ne 4 (by decide))) (sk6 h (Or.inl (ne 6 (by decide))) (b_M_readLine_78 (wordM (w := 14) h (by omega) kc14 (by rw [if_pos ⟨rfl, rfl⟩]; exact br_f (by decide) (br_f (by rw [mm14]; exact fun z => by have := (nLe (a := 15) (by omega) (by omega)).mp z; omega) H)))))))
      · refine fl' (fun K H => pw K (e_Rd_readFriend ?_)) (fun K H => sk0 h (Or.inl (ne 0 (by decide))) (sk4 h (Or.inl (ne 4 (by decide))) (sk6 h (Or.inl (ne 6 (by decide))) (sk14 h (Or.inr (by rw [mm14]; exact (nLe (a := 15) (by omega) (by omega)).mpr (by omega))) (sk15 h (Or.inl (ne 15 (by decide))) (sk16 h (Or.inl (ne 16 (by decide))) (sk17 h (Or.inl (ne 17 (by decide))) (sk18 h (Or.inl (ne 18 (by decide))) (H)))))))))
        rw [em14]
        exact e_Rd_opens (br_f (fun z => y ((nLt (b := 15) (by omega) (by omega)).mp z)) (r1 _ _ _ ⟨zb0, br_nt rfl H⟩))
    by_cases w15 : v = 15
    · subst w15
      have pw : ∀ K, wearC hc d S (fun r S1 => B_Rd_readText_251 hc d r (nI x) S1 K) → B_Rd_readText_26 hc d 1 (nI x) S K := by
        intro K H0
        have H := H0 (fun s => B_Rd_readText_213 hc d (nI x) s K) (fun s => B_Rd_readText_214 hc d (nI x) 1 s K) (fun s g => b_Rd_readText_213 (b_Rd_readText_214 g)) (fun s g => b_Rd_readText_214 g)
        refine pre K (br_nt k43 ?_)
        rw [val]
        exact b_Rd_readText_70 ⟨fun z => absurd z (by decide), fun z => absurd z (by decide), fun z => absurd z (by decide), fun z => absurd z (by decide), fun z => absurd z (by decide), fun z => absurd z (by decide), fun z => absurd z (by decide), fun z => absurd z (by decide), fun z => absurd z (by decide), fun z => absurd z (by decide), fun z => absurd z (by decide), fun z => absurd z (by decide), fun z => absurd z (by decide), fun z => absurd z (by decide), fun z => absurd z (by decide), fun z => absurd z (by decide), fun _ => H, fun z => absurd z (by decide), fun z => absurd z (by decide), fun z => absurd z (by decide)⟩
      by_cases y : M.1 0 62 = 0
      · exact useLJ (lineWear (d := d) (e := e + 1) (hc := hc) (hm := hm) h hD y) hqp pw (fun K H => sk0 h (Or.inl (ne 0 (by decide))) (sk4 h (Or.inl (ne 4 (by decide))) (sk6 h (Or.inl (ne 6 (by decide))) (sk14 h (Or.inl (ne 14 (by decide))) (b_M_readLine_104 (wordM (w := 15) h (by omega) kc15 (by rw [if_pos ⟨rfl, rfl⟩]; exact br_f (by decide) (br_nt y H))))))))
      · have nz : ¬ (S.1 18 6 &&& oneAt (nI 15)) = 0 := fun z => by
          rw [x1] at z
          exact y (x2.trans ((mB0 _).mpr ((sN_t a1 b1 c1 d1).1.mp z)))
        refine fl' (fun K H => pw K (fun A0 A1 i0 i1 => e_Rd_opensOnce ?_)) (fun K H => sk0 h (Or.inl (ne 0 (by decide))) (sk4 h (Or.inl (ne 4 (by decide))) (sk6 h (Or.inl (ne 6 (by decide))) (sk14 h (Or.inl (ne 14 (by decide))) (sk15 h (Or.inr y) (sk16 h (Or.inl (ne 16 (by decide))) (sk17 h (Or.inl (ne 17 (by decide))) (sk18 h (Or.inl (ne 18 (by decide))) (H)))))))))
        rw [val]
        exact br_f nz (r1 _ _ _ ⟨zb0, br_t rfl (i0 _ H)⟩)
    by_cases w16 : v = 16
    · subst w16
      have pw : ∀ K, M_Rd_readHoursOfDay hc (d + 66) S (fun r S1 => B_Rd_readText_251 hc d r (nI x) S1 K) → B_Rd_readText_26 hc d 1 (nI x) S K := by
        intro K H
        refine pre K (br_nt k43 ?_)
        rw [val]
        exact b_Rd_readText_70 ⟨fun z => absurd z (by decide), fun z => absurd z (by decide), fun z => absurd z (by decide), fun z => absurd z (by decide), fun z => absurd z (by decide), fun z => absurd z (by decide), fun z => absurd z (by decide), fun z => absurd z (by decide), fun z => absurd z (by decide), fun z => absurd z (by decide), fun z => absurd z (by decide), fun z => absurd z (by decide), fun z => absurd z (by decide), fun z => absurd z (by decide), fun z => absurd z (by decide), fun z => absurd z (by decide), fun z => absurd z (by decide), fun _ => H, fun z => absurd z (by decide), fun z => absurd z (by decide)⟩
      by_cases y : M.1 0 63 = 0
      · exact useLJ (lineDay (d := d + 66) (e := e + 2) (hc := hc) (hm := hm) h hD y) hqp pw (fun K H => sk0 h (Or.inl (ne 0 (by decide))) (sk4 h (Or.inl (ne 4 (by decide))) (sk6 h (Or.inl (ne 6 (by decide))) (sk14 h (Or.inl (ne 14 (by decide))) (sk15 h (Or.inl (ne 15 (by decide))) (b_M_readLine_133 (wordM (w := 16) h (by omega) kc16 (by rw [if_pos ⟨rfl, rfl⟩]; exact br_f (by decide) (br_nt y H)))))))))
      · have nz : ¬ (S.1 18 6 &&& oneAt (nI 16)) = 0 := fun z => by
          rw [x1] at z
          exact y (x3.trans ((mB0 _).mpr ((sN_t a1 b1 c1 d1).2.1.mp z)))
        refine fl' (fun K H => pw K (e_Rd_readHoursOfDay (e_Rd_opensOnce ?_))) (fun K H => sk0 h (Or.inl (ne 0 (by decide))) (sk4 h (Or.inl (ne 4 (by decide))) (sk6 h (Or.inl (ne 6 (by decide))) (sk14 h (Or.inl (ne 14 (by decide))) (sk15 h (Or.inl (ne 15 (by decide))) (sk16 h (Or.inr y) (sk17 h (Or.inl (ne 17 (by decide))) (sk18 h (Or.inl (ne 18 (by decide))) (H)))))))))
        rw [val]
        exact br_f nz (r1 _ _ _ ⟨zb0, br_nt rfl H⟩)
    by_cases w17 : v = 17
    · subst w17
      have pw : ∀ K, M_Rd_readStorm hc (d + 66) S (fun r S1 => B_Rd_readText_251 hc d r (nI x) S1 K) → B_Rd_readText_26 hc d 1 (nI x) S K := by
        intro K H
        refine pre K (br_nt k43 ?_)
        rw [val]
        exact b_Rd_readText_70 ⟨fun z => absurd z (by decide), fun z => absurd z (by decide), fun z => absurd z (by decide), fun z => absurd z (by decide), fun z => absurd z (by decide), fun z => absurd z (by decide), fun z => absurd z (by decide), fun z => absurd z (by decide), fun z => absurd z (by decide), fun z => absurd z (by decide), fun z => absurd z (by decide), fun z => absurd z (by decide), fun z => absurd z (by decide), fun z => absurd z (by decide), fun z => absurd z (by decide), fun z => absurd z (by decide), fun z => absurd z (by decide), fun z => absurd z (by decide), fun _ => H, fun z => absurd z (by decide)⟩
      by_cases y : M.1 0 64 = 0
      · exact useLJ (lineStorm (d := d + 66) (e := e + 2) (hc := hc) (hm := hm) h hD y) hqp pw (fun K H => sk0 h (Or.inl (ne 0 (by decide))) (sk4 h (Or.inl (ne 4 (by decide))) (sk6 h (Or.inl (ne 6 (by decide))) (sk14 h (Or.inl (ne 14 (by decide))) (sk15 h (Or.inl (ne 15 (by decide))) (sk16 h (Or.inl (ne 16 (by decide))) (b_M_readLine_172 (wordM (w := 17) h (by omega) kc17 (by rw [if_pos ⟨rfl, rfl⟩]; exact br_f (by decide) (br_nt y H))))))))))
      · have nz : ¬ (S.1 18 6 &&& oneAt (nI 17)) = 0 := fun z => by
          rw [x1] at z
          exact y (x4.trans ((mB0 _).mpr ((sN_t a1 b1 c1 d1).2.2.1.mp z)))
        refine fl' (fun K H => pw K (e_Rd_readStorm (e_Rd_opensOnce ?_))) (fun K H => sk0 h (Or.inl (ne 0 (by decide))) (sk4 h (Or.inl (ne 4 (by decide))) (sk6 h (Or.inl (ne 6 (by decide))) (sk14 h (Or.inl (ne 14 (by decide))) (sk15 h (Or.inl (ne 15 (by decide))) (sk16 h (Or.inl (ne 16 (by decide))) (sk17 h (Or.inr y) (sk18 h (Or.inl (ne 18 (by decide))) (H)))))))))
        rw [val]
        exact br_f nz (r1 _ _ _ ⟨zb0, br_nt rfl H⟩)
    by_cases w18 : v = 18
    · subst w18
      have pw : ∀ K, M_Rd_readDraw hc (d + 66) S (fun r S1 => B_Rd_readText_251 hc d r (nI x) S1 K) → B_Rd_readText_26 hc d 1 (nI x) S K := by
        intro K H
        refine pre K (br_nt k43 ?_)
        rw [val]
        exact b_Rd_readText_70 ⟨fun z => absurd z (by decide), fun z => absurd z (by decide), fun z => absurd z (by decide), fun z => absurd z (by decide), fun z => absurd z (by decide), fun z => absurd z (by decide), fun z => absurd z (by decide), fun z => absurd z (by decide), fun z => absurd z (by decide), fun z => absurd z (by decide), fun z => absurd z (by decide), fun z => absurd z (by decide), fun z => absurd z (by decide), fun z => absurd z (by decide), fun z => absurd z (by decide), fun z => absurd z (by decide), fun z => absurd z (by decide), fun z => absurd z (by decide), fun z => absurd z (by decide), fun _ => H⟩
      by_cases y : M.1 0 65 = 0
      · exact useLJ (lineDraw (d := d + 66) (e := e + 2) (hc := hc) (hm := hm) h hD y) hqp pw (fun K H => sk0 h (Or.inl (ne 0 (by decide))) (sk4 h (Or.inl (ne 4 (by decide))) (sk6 h (Or.inl (ne 6 (by decide))) (sk14 h (Or.inl (ne 14 (by decide))) (sk15 h (Or.inl (ne 15 (by decide))) (sk16 h (Or.inl (ne 16 (by decide))) (sk17 h (Or.inl (ne 17 (by decide))) (b_M_readLine_211 (wordM (w := 18) h (by omega) kc18 (by rw [if_pos ⟨rfl, rfl⟩]; exact br_f (by decide) (br_nt y H)))))))))))
      · have nz : ¬ (S.1 18 6 &&& oneAt (nI 18)) = 0 := fun z => by
          rw [x1] at z
          exact y (x5.trans ((mB0 _).mpr ((sN_t a1 b1 c1 d1).2.2.2.mp z)))
        refine fl' (fun K H => pw K (e_Rd_readDraw (e_Rd_opensOnce ?_))) (fun K H => sk0 h (Or.inl (ne 0 (by decide))) (sk4 h (Or.inl (ne 4 (by decide))) (sk6 h (Or.inl (ne 6 (by decide))) (sk14 h (Or.inl (ne 14 (by decide))) (sk15 h (Or.inl (ne 15 (by decide))) (sk16 h (Or.inl (ne 16 (by decide))) (sk17 h (Or.inl (ne 17 (by decide))) (sk18 h (Or.inr y) (H)))))))))
        rw [val]
        exact br_f nz (r1 _ _ _ ⟨zb0, br_nt rfl H⟩)
    have nv : ∀ w, w < 22 → v ≠ w → ¬ nI v = nI w := fun w h1 h2 z => h2 ((nEq (by omega) (by omega)).mp z)
    refine fl (fun K H => pre K (br_nt k43 ?_)) (fun K H => sk0 h (Or.inl (ne 0 w0)) (sk4 h (Or.inl (ne 4 w4)) (sk6 h (Or.inl (ne 6 w6)) (sk14 h (Or.inl (ne 14 w14)) (sk15 h (Or.inl (ne 15 w15)) (sk16 h (Or.inl (ne 16 w16)) (sk17 h (Or.inl (ne 17 w17)) (sk18 h (Or.inl (ne 18 w18)) (H)))))))))
    rw [val]
    exact b_Rd_readText_70 ⟨fun _ => H, fun z => absurd z (nv 0 (by omega) w0), fun _ => H, fun _ => H, fun _ => H, fun z => absurd z (nv 4 (by omega) w4), fun _ => H, fun z => absurd z (nv 6 (by omega) w6), fun _ => H, fun _ => H, fun _ => H, fun _ => H, fun _ => H, fun _ => H, fun _ => H, fun z => absurd z (nv 14 (by omega) w14), fun z => absurd z (nv 15 (by omega) w15), fun z => absurd z (nv 16 (by omega) w16), fun z => absurd z (nv 17 (by omega) w17), fun z => absurd z (nv 18 (by omega) w18)⟩
  · have k43 : ¬ S.1 19 4 = 3 := by rw [k4]; exact fun z => y3 ((nEq (b := 3) (by omega) (by omega)).mp z)
    exact fl (fun K H => pre K (br_nf k43 (b_Rd_readText_70 ⟨fun _ => H, fun z => absurd z (by decide), fun _ => H, fun _ => H, fun _ => H, fun z => absurd z (by decide), fun _ => H, fun z => absurd z (by decide), fun _ => H, fun _ => H, fun _ => H, fun _ => H, fun _ => H, fun _ => H, fun _ => H, fun z => absurd z (by decide), fun z => absurd z (by decide), fun z => absurd z (by decide), fun z => absurd z (by decide), fun z => absurd z (by decide)⟩))) (fun K H => sk0 h (Or.inl (fun z => y3 z.1)) (sk4 h (Or.inl (fun z => y3 z.1)) (sk6 h (Or.inl (fun z => y3 z.1)) (sk14 h (Or.inl (fun z => y3 z.1)) (sk15 h (Or.inl (fun z => y3 z.1)) (sk16 h (Or.inl (fun z => y3 z.1)) (sk17 h (Or.inl (fun z => y3 z.1)) (sk18 h (Or.inl (fun z => y3 z.1)) (H)))))))))
theorem readStep (hn : n ≤ 1600) {x : Nat} (hx : 2 * x ≤ q) (h : QJ t n k v l q p S M) (hk : k ≤ 5) (hD : ∃ nm nd nb nf hd st, DR nm nd nb nf hd st S M)
    (ih : ∀ (S' M' : xSt) (k' v' : Nat) (l' : List Nat) (q' p' : Nat), QJ t n k' v' l' q' p' S' M' → q + 2 ≤ q' → k' ≤ 5 → (∃ nm nd nb nf hd st, DR nm nd nb nf hd st S' M') → (∃ S1 M1, (∀ K, K 1 S1 → B_Rd_readText_26 hc d 1 (nI (x + 1)) S' K) ∧ (∀ K, K M1 → B_M_readAll_98 hm e M' K) ∧ FPc S' S1 ∧ FPm M' M1 ∧ NF S1 M1 ∧ ∃ nm nd nb nf hd st, DR nm nd nb nf hd st S1 M1) ∨ (∃ S1 M1, (∀ K, K 0 S1 → B_Rd_readText_26 hc d 1 (nI (x + 1)) S' K) ∧ (∀ K, K M1 → B_M_readAll_98 hm e M' K) ∧ FPc S' S1 ∧ FPm M' M1 ∧ FJ S1 M1)) :
    (∃ S' M', (∀ K, K 1 S' → B_Rd_readText_26 hc d 1 (nI x) S K) ∧ (∀ K, K M' → B_M_readAll_98 hm e M K) ∧ FPc S S' ∧ FPm M M' ∧ NF S' M' ∧ ∃ nm nd nb nf hd st, DR nm nd nb nf hd st S' M') ∨ (∃ S' M', (∀ K, K 0 S' → B_Rd_readText_26 hc d 1 (nI x) S K) ∧ (∀ K, K M' → B_M_readAll_98 hm e M K) ∧ FPc S S' ∧ FPm M M' ∧ FJ S' M') := by
  have f0 := h.2.f0
  have tk := h.1.2.2.2.2.2.1
  have qn := h.1.2.2.2.2.1
  obtain ⟨nm, nd, nb, nf, hd, st, hD⟩ := hD
  have hx1 : x < 1600 := by omega
  by_cases k0 : k = 0
  · exact Or.inl ⟨S, M, fun K H => b_Rd_readText_26 (br_f (nI_ge (b := 1600) hx1 (by omega)) (br_f (by decide) (br_t ((tk_end tk).1.mpr k0) ⟨zb1, H⟩))), fun K H => b_M_readAll_98 (br_nt f0.2 (br_t ((tk_end tk).2.mpr k0) H)), fun _ _ => rfl, ⟨fun _ _ => rfl, fun _ _ => rfl⟩, h.2, nm, nd, nb, nf, hd, st, hD⟩
  · have preM : ∀ K, M_M_readLine hm e M (fun M1 => B_M_readAll_98 hm e M1 K) → B_M_readAll_98 hm e M K := fun K H => b_M_readAll_98 (br_nt f0.2 (br_f (fun z => k0 ((tk_end tk).2.mp z)) H))
    have endC : ∀ s K, K 0 s → B_Rd_readText_271 hc d (nI x) s K := fun s K H => by
      refine b_Rd_readText_271 (b_Rd_readText_272 (b_Rd_readText_26 ?_))
      rw [nI_1]
      exact br_f (nI_ge (b := 1600) (by omega) (by omega)) (br_t rfl ⟨zb0, H⟩)
    have endM : ∀ (M1 : xSt) K, Bad M1 → K M1 → B_M_readLine_277 hm e M1 (fun M2 => B_M_readAll_98 hm e M2 K) := fun M1 K hb H => b_M_readLine_277 (br_nf hb.2 (b_M_readAll_98 (br_nf hb.2 H)))
    rcases lineJ (hc := hc) (hm := hm) (d := d) (e := e) h k0 hk hD hx1 with ⟨S1, M1, a1, a2, a3, a4, ⟨k1, v1, l1, q1, p1, a5, a6, a7⟩, a8⟩ | ⟨S1, M1, a1, a2, a3, a4, a5⟩
    · have f1 := a5.2.f0
      have s59 := tk_sign a5.1.2.2.2.2.2.1 (w := 59) (by decide)
      by_cases y : k1 = 5 ∧ v1 = 59
      · have qp1 := (a5.1.2.2.2.2.2.2 (by omega)).2.2.1
        obtain ⟨S2, M2, k2, v2, l2, q2, p2, b1, b2, b3, b4, b5, b6, b7⟩ := advJ (hc := hc) (d := d + 67) (hm := hm) (e := e + 4) a5 (by omega)
        obtain ⟨nm, nd, nb, nf, hd, st, a8⟩ := a8
        have pC : ∀ K, B_Rd_readText_26 hc d 1 (nI (x + 1)) S2 K → B_Rd_readText_26 hc d 1 (nI x) S K := by
          intro K H
          refine a1 K (b_Rd_readText_251 (br_f (by decide) (e_Tk_takesSign (signC (w := 59) a5 (by decide) ?_))))
          rw [if_pos y]
          refine br_nf (by decide) (b1 _ (br_f (by decide) (b_Rd_readText_272 ?_)))
          rw [nI_1]; exact H
        have pM : ∀ K, B_M_readAll_98 hm e M2 K → B_M_readAll_98 hm e M K := fun K H => preM K (a2 _ (b_M_readLine_256 (br_nt f1.2 (br_t (s59.2.mpr y) (b_M_readLine_277 (br_nt f1.2 (b2 _ H)))))))
        rcases ih S2 M2 k2 v2 l2 q2 p2 b5 (by omega) b7 ⟨nm, nd, nb, nf, hd, st, a8.fr b3 b4⟩ with ⟨S3, M3, c1, c2, c3, c4, c5, c6⟩ | ⟨S3, M3, c1, c2, c3, c4, c5⟩
        · exact Or.inl ⟨S3, M3, fun K H => pC K (c1 K H), fun K H => pM K (c2 K H), a3.tr (b3.pc.tr c3), a4.tr (b4.pm.tr c4), c5, c6⟩
        · exact Or.inr ⟨S3, M3, fun K H => pC K (c1 K H), fun K H => pM K (c2 K H), a3.tr (b3.pc.tr c3), a4.tr (b4.pm.tr c4), c5⟩
      · obtain ⟨S2, M2, r1, r2, r3, r4, r5, -⟩ := refJ a5 (f := 2) (by omega) (by omega)
        refine Or.inr ⟨S2, M2, fun K H => a1 K (b_Rd_readText_251 (br_f (by decide) (e_Tk_takesSign (signC (w := 59) a5 (by decide) ?_)))), fun K H => preM K (a2 _ (b_M_readLine_256 (br_nt f1.2 (br_f (fun z => y (s59.2.mp z)) (r2 _ _ _ (endM M2 K r5.bad H)))))), a3.tr r3.pc, a4.tr r4.pm, r5⟩
        rw [if_neg y]
        exact br_nt rfl (r1 _ _ _ ⟨zb0, br_t rfl (endC _ K H)⟩)
    · exact Or.inr ⟨S1, M1, fun K H => a1 K (b_Rd_readText_251 (br_t rfl (endC _ K H))), fun K H => preM K (a2 _ (b_M_readLine_256 (br_nf a5.bad.2 (endM M1 K a5.bad H)))), a3, a4, a5⟩
/-- all lines -/
theorem readJ (hn : n ≤ 1600) : ∀ (N x k v : Nat) (l : List Nat) (q p : Nat) (S M : xSt), n - q ≤ N → 2 * x ≤ q → QJ t n k v l q p S M → k ≤ 5 → (∃ nm nd nb nf hd st, DR nm nd nb nf hd st S M) →
    (∃ S' M', (∀ K, K 1 S' → B_Rd_readText_26 hc d 1 (nI x) S K) ∧ (∀ K, K M' → B_M_readAll_98 hm e M K) ∧ FPc S S' ∧ FPm M M' ∧ NF S' M' ∧ ∃ nm nd nb nf hd st, DR nm nd nb nf hd st S' M') ∨ (∃ S' M', (∀ K, K 0 S' → B_Rd_readText_26 hc d 1 (nI x) S K) ∧ (∀ K, K M' → B_M_readAll_98 hm e M K) ∧ FPc S S' ∧ FPm M M' ∧ FJ S' M') := by
  intro N
  induction N with
  | zero =>
    intro x k v l q p S M hN hx h hk hD
    exact readStep hn hx h hk hD (fun S' M' k' v' l' q' p' g1 g2 => by have := h.1.2.2.2.2.1; have := g1.1.2.2.2.2.1; omega)
  | succ N ih =>
    intro x k v l q p S M hN hx h hk hD
    refine readStep hn hx h hk hD (fun S' M' k' v' l' q' p' g1 g2 g3 g4 => ih (x + 1) k' v' l' q' p' S' M' (by have := h.1.2.2.2.2.1; omega) (by omega) g1 g3 g4)
end
end
