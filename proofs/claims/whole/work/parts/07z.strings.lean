section
abbrev zs_n0 : Nat := 114
abbrev zs_len0 : Int32 := 114
def zs_char0 (i : Int32) : Int32 := nI (zs_b0.getD i.toNatClampNeg 0)
def zs_ix : List Nat → Nat → Int32 → Int32
  | [], _, _ => -1
  | b :: t, k, c => if nI b = c then nI k else zs_ix t (k + 1) c
def zs_index1 (c : Int32) : Int32 := zs_ix zs_b1 0 c
end
section
-- rows for what lies outside the system's own cells
variable {G : xG} {d : Nat} {Y : xY} {pc : Nat} {lv : List (Nat × Value)} {st : List Value} {S : xSt} {K : Option Value → xSt → Prop}
theorem x_ldcS {ix a : Nat} (hd : decode Y.2.1 pc = .ok (.ldc ix, 2)) (hz : ∀ s, G.2.2.2.2.2 s → ∃ tx, vk_R Y.1.cls ix tx a s) (h : X G d Y (pc + 2) lv (.ref a :: st) S K) : X G d Y pc lv st S K := by
  intro p e s m args below meth c H locs ls C hG hK hZ hP hS hl
  obtain ⟨tx, hz⟩ := hz s hZ
  exact va_ldcS C.1 C.2.1 C.2.2.2.2.1 hz hd (h p e s m args below meth c H locs ls C hG hK hZ hP hS hl)
theorem x_getO {ix q : Nat} {o n dd : String} {v : Value} (hz : ∀ s, G.2.2.2.2.2 s → va_OF o n dd v q (x_A G) s s.heap) (hd : decode Y.2.1 pc = .ok (.getfield ix, 3)) (hw : Cond.fieldLink Y.1.cls ix o n dd ∈ x_TT) (h : X G d Y (pc + 3) lv (v :: st) S K) : X G d Y pc lv (.ref q :: st) S K := by
  intro p e s m args below meth c H locs ls C hG hK hZ hP hS hl
  exact vk_getf C.1 C.2.1 (hz s hZ) hS C.2.2.2.2.1 (C.2.2.2.2.2.1 _ (List.mem_cons_of_mem _ hw)) (fun _ h => h) hd (h p e s m args below meth c H locs ls C hG hK hZ hP hS hl)
theorem x_getZ {ix : Nat} {o n dd : String} {v : Value} (hz : ∀ s, G.2.2.2.2.2 s → va_Z o n dd v (x_A G) s s.heap) (hd : decode Y.2.1 pc = .ok (.getstatic ix, 3)) (hw : Cond.fieldLink Y.1.cls ix o n dd ∈ x_TT) (h : X G d Y (pc + 3) lv (v :: st) S K) : X G d Y pc lv st S K := by
  intro p e s m args below meth c H locs ls C hG hK hZ hP hS hl
  exact va_gets C.1 C.2.1 (hz s hZ) hS C.2.2.2.2.1 (C.2.2.2.2.2.1 _ (List.mem_cons_of_mem _ hw)) (fun _ h => h) hd (h p e s m args below meth c H locs ls C hG hK hZ hP hS hl)
theorem x_getZq {ix : Nat} {o n dd : String} (hz : ∀ s, G.2.2.2.2.2 s → va_Zq o n dd (x_A G) s s.heap) (hd : decode Y.2.1 pc = .ok (.getstatic ix, 3)) (hw : Cond.fieldLink Y.1.cls ix o n dd ∈ x_TT) (h0 : X G d Y (pc + 3) lv (.null :: st) S K) (h1 : ∀ t, X G d Y (pc + 3) lv (.ref t :: st) S K) : X G d Y pc lv st S K := by
  intro p e s m args below meth c H locs ls C hG hK hZ hP hS hl
  rcases hz s hZ with q | ⟨t, q⟩
  · exact va_gets C.1 C.2.1 q hS C.2.2.2.2.1 (C.2.2.2.2.2.1 _ (List.mem_cons_of_mem _ hw)) (fun _ h => h) hd (h0 p e s m args below meth c H locs ls C hG hK hZ hP hS hl)
  · exact va_gets C.1 C.2.1 q hS C.2.2.2.2.1 (C.2.2.2.2.2.1 _ (List.mem_cons_of_mem _ hw)) (fun _ h => h) hd (h1 t p e s m args below meth c H locs ls C hG hK hZ hP hS hl)
theorem x_tb {q N : Nat} {f : Nat → Value} {i : Int32} {v : Value} (hz : ∀ s, G.2.2.2.2.2 s → va_T .byte q N f (x_A G) s s.heap) (hin : vp_in i N) (hv : f i.toNatClampNeg = v) (hd : decode Y.2.1 pc = .ok (.baload, 1)) (h : X G d Y (pc + 1) lv (v :: st) S K) : X G d Y pc lv (.int i :: .ref q :: st) S K := by
  intro p e s m args below meth c H locs ls C hG hK hZ hP hS hl
  exact va_tb C.1 C.2.1 (hz s hZ) hS hin hv hd (h p e s m args below meth c H locs ls C hG hK hZ hP hS hl)
theorem x_tlen {q N : Nat} {f : Nat → Value} (hz : ∀ s, G.2.2.2.2.2 s → va_T .byte q N f (x_A G) s s.heap) (hd : decode Y.2.1 pc = .ok (.arraylength, 1)) (h : X G d Y (pc + 1) lv (.int (nI N) :: st) S K) : X G d Y pc lv (.ref q :: st) S K := by
  intro p e s m args below meth c H locs ls C hG hK hZ hP hS hl
  exact va_tlen C.1 C.2.1 (hz s hZ) hS rfl hd (h p e s m args below meth c H locs ls C hG hK hZ hP hS hl)
theorem x_callO {Y' : xY} {as rest : List Value} {n ix q : Nat} {Kc : Option Value → xSt → Prop} (hM : x_MV Y' n) (hz : ∀ s, G.2.2.2.2.2 s → va_O Y'.1.cls q (x_A G) s s.heap) (hd : decode Y.2.1 pc = .ok (.invokevirtual ix, 3)) (hw : Cond.methodLink Y.1.cls ix Y'.1 ∈ x_TT) (hn : as.length = n) (hr : (rest.map fun v => v.category).sum ≤ 8) (hs : st = as.reverse ++ .ref q :: rest)
    (h : E G d Y' (.ref q :: as) S Kc) (hk : ∀ r S', Kc r S' → X G (d + 1) Y (pc + 3) lv (r.toList ++ rest) S' K) : X G (d + 1) Y pc lv st S K := by
  intro p e s m args below meth c H locs ls C hG hK hZ hP hS hl
  subst hs
  obtain ⟨⟨m1, m2, m3, m4, m5, m6⟩, m7, m8⟩ := hM
  have hgood : GoodIn (x_wsY Y) (wsV Y.1.cls ix Y'.1.cls Y'.1 (x_wsY Y')) := by
    have go : ∀ w, w ∈ x_TT → w ∈ x_wsY Y ∧ ((w.onTables && w.keeps) = true ∨ ∃ ty, w = .arrayClass ty) := fun w h => ⟨List.mem_cons_of_mem _ h, x_good h⟩
    intro w h
    unfold wsV at h
    simp only [List.cons_append, List.nil_append, List.mem_cons] at h
    rcases h with h | h | h | h | h | h
    · rw [h]; exact go _ hw
    · rw [h]; exact go _ m7
    · rw [h]; exact go _ m8
    · rw [h]; exact go _ m2
    · rw [h]; exact go _ m1
    · exact go _ h
  have hrec : ∃ cell : Cell, H[q]? = some cell ∧ cell.vm.isStatics = false ∧ s.vm.findClass Y'.1.cls = some cell.cls := by
    obtain ⟨cell, h1, h2, h3, -⟩ := (hz s hZ).kept hS.2.1
    exact ⟨cell, h1, h2, h3⟩
  refine x_callK (va_runV (g := F0 m pc ls (as.reverse ++ .ref q :: rest)) (As := as) (rest := rest) ⟨C.1, C.2.1, C.2.2.2.1, C.2.2.2.2.1, C.2.2.2.2.2.1⟩ h (cwV n C.2.2.2.2.2.1 hgood rfl rfl rfl ⟨rfl, m4, m5, m6⟩ ⟨Nat.le_refl _, by show 8 + (Y'.2.2.1 + 11) + 64 * d ≤ 64 * (d + 1); omega⟩) ⟨x_blind, hrec, x_pre hG hK hZ hP hS _⟩ rfl hn hl.1 rfl (lv_room hr) hd ⟨Nat.zero_le _, Nat.zero_le _⟩) hS (fun r S' H1 locs1 hk1 hP1 hS1 => ?_)
  exact hk r S' hk1 p e s m args below meth c H1 locs1 ls C hG hK hZ hP1 hS1 hl
end
section
-- what is given of the two constants
theorem zsZ.warm {A : Nat → Prop} {ad : Nat → Nat} {s U : State} (h : zsZ A ad s) (hW : s.WarmedH U.vm) (hF : va_F A s U) : zsZ A ad U := by
  obtain ⟨⟨t0, h0⟩, ⟨t1, h1⟩, h2, h3, h4⟩ := h
  have hq : ∀ a : Nat, a < s.heap.size → ¬ A a → U.heap[a]? = s.heap[a]? := hF.2
  exact ⟨⟨t0, h0.warm hW⟩, ⟨t1, h1.warm hW⟩, (h2.moved hW.alike).kept hq, (h3.moved hW.alike).kept hq, (h4.moved hW.alike).kept hq⟩
theorem zsZ.same {A : Nat → Prop} {ad : Nat → Nat} {s U : State} (h : zsZ A ad s) (hv : U.vm = s.vm) (hh : U.heap = s.heap) : zsZ A ad U := by
  obtain ⟨⟨t0, h0⟩, ⟨t1, h1⟩, h2, h3, h4⟩ := h
  have ha : s.vm.Alike U.vm := by rw [hv]; exact Vm.Alike.refl s.vm
  unfold zsZ
  rw [hh]
  exact ⟨⟨t0, h0.same hv⟩, ⟨t1, h1.same hv⟩, h2.moved ha, h3.moved ha, h4.moved ha⟩
theorem zsZ.narrow {A B : Nat → Prop} {ad : Nat → Nat} {s : State} (h : zsZ A ad s) (hAB : ∀ q, B q → A q) : zsZ B ad s := by
  obtain ⟨h0, h1, h2, h3, h4⟩ := h
  exact ⟨h0, h1, h2.narrow hAB, h3.narrow hAB, h4.narrow hAB⟩
theorem x_okC {h : xH} (hi : ∀ i j, i < layC.length → j < layC.length → h.2.2.2.1 i = h.2.2.2.1 j → i = j) : x_ok (gC h) := ⟨hi, fun _ _ hz hW hF => zsZ.warm hz hW hF, fun _ _ hz hv hh => zsZ.same hz hv hh⟩
variable {h : xH} {d i : Nat} {S : xSt} {K : Option Value → xSt → Prop}
theorem zo_O (hi : i < 2) : ∀ s, (gC h).2.2.2.2.2 s → va_O RJ0 (x_ad (gC h) (1000 + i)) (x_A (gC h)) s s.heap := fun _ hz => (hz.2.2.1.1 i hi).1
theorem zo_C (hi : i < 2) : ∀ s, (gC h).2.2.2.2.2 s → va_OF "java/lang/String" "coder" "B" (.int 0) (x_ad (gC h) (1000 + i)) (x_A (gC h)) s s.heap := fun _ hz => (hz.2.2.1.1 i hi).2.1
theorem zo_V (hi : i < 2) : ∀ s, (gC h).2.2.2.2.2 s → va_OF "java/lang/String" "value" "[B" (.ref (x_ad (gC h) (1002 + i))) (x_ad (gC h) (1000 + i)) (x_A (gC h)) s s.heap := fun _ hz => (hz.2.2.1.1 i hi).2.2.1
theorem zo_T (hi : i < 2) : ∀ s, (gC h).2.2.2.2.2 s → va_T .byte (x_ad (gC h) (1002 + i)) (zs_len.getD i 0) (fun j => .int ((zs_byt.getD i []).getD j 0)) (x_A (gC h)) s s.heap := fun _ hz => (hz.2.2.1.1 i hi).2.2.2
theorem zo_Z : ∀ s, (gC h).2.2.2.2.2 s → va_Z "java/lang/String" "COMPACT_STRINGS" "Z" (.int 1) (x_A (gC h)) s s.heap := fun _ hz => hz.2.2.2.1
theorem zo_Q : ∀ s, (gC h).2.2.2.2.2 s → va_Zq "jdk/internal/util/Preconditions" "SIOOBE_FORMATTER" "Ljava/util/function/BiFunction;" (x_A (gC h)) s s.heap := fun _ hz => hz.2.2.2.2
-- the JDK's methods
set_option maxRecDepth 100000 in
theorem j_coder (hi : i < 2) (H : K (some (.int 0)) S) : E (gC h) d mYJ0_coder_7d493 [.ref (x_ad (gC h) (1000 + i))] S K := by
  refine x_enter pn_J0 (Nat.le_of_ble_eq_true rfl) ?_
  refine x_getZ zo_Z (x_at tdJ0_coder_7d493 0 rfl) wf_J0_38 ?_
  refine x_if_eq 13 (x_at tdJ0_coder_7d493 1 rfl) (by decide) (fun q => absurd q (by decide)) (fun _ => ?_)
  refine x_aload_n (x_at tdJ0_coder_7d493 2 rfl) rfl rfl ?_
  refine x_getO (zo_C hi) (x_at tdJ0_coder_7d493 3 rfl) wf_J0_15 ?_
  refine x_goto 14 (x_at tdJ0_coder_7d493 4 rfl) (by decide) ?_
  exact x_ireturn rfl rfl (x_at tdJ0_coder_7d493 6 rfl) H
set_option maxRecDepth 100000 in
theorem j_isLatin1 (hi : i < 2) (H : K (some (.int 1)) S) : E (gC h) d mYJ0_isLatin1_aae02 [.ref (x_ad (gC h) (1000 + i))] S K := by
  refine x_enter pn_J0 (Nat.le_of_ble_eq_true rfl) ?_
  refine x_getZ zo_Z (x_at tdJ0_isLatin1_aae02 0 rfl) wf_J0_38 ?_
  refine x_if_eq 17 (x_at tdJ0_isLatin1_aae02 1 rfl) (by decide) (fun q => absurd q (by decide)) (fun _ => ?_)
  refine x_aload_n (x_at tdJ0_isLatin1_aae02 2 rfl) rfl rfl ?_
  refine x_getO (zo_C hi) (x_at tdJ0_isLatin1_aae02 3 rfl) wf_J0_15 ?_
  refine x_if_ne 17 (x_at tdJ0_isLatin1_aae02 4 rfl) (by decide) (fun q => absurd rfl q) (fun _ => ?_)
  refine x_iconst (x_at tdJ0_isLatin1_aae02 5 rfl) (v := 1) (by decide) ?_
  refine x_goto 18 (x_at tdJ0_isLatin1_aae02 6 rfl) (by decide) ?_
  exact x_ireturn rfl (by decide +kernel) (x_at tdJ0_isLatin1_aae02 8 rfl) H
theorem zs_len_small (hi : i < 2) : zs_len.getD i 0 < 200 := by
  match i, hi with
  | 0, _ => decide
  | 1, _ => decide
theorem zs_shr0 {n : Nat} : nI n >>> ((0 : Int32) &&& 31) = nI n := by
  have e : ((0 : Int32) &&& 31) = 0 := by decide
  rw [e]
  exact Int32.shiftRight_zero
set_option maxRecDepth 100000 in
theorem j_length (hi : i < 2) (H : K (some (.int (nI (zs_len.getD i 0)))) S) : E (gC h) (d + 1) mYJ0_length_8abf5 [.ref (x_ad (gC h) (1000 + i))] S K := by
  refine x_enter pn_J0 (Nat.le_of_ble_eq_true rfl) ?_
  refine x_aload_n (x_at tdJ0_length_8abf5 0 rfl) rfl rfl ?_
  refine x_getO (zo_V hi) (x_at tdJ0_length_8abf5 1 rfl) wf_J0_9 ?_
  refine x_tlen (zo_T hi) (x_at tdJ0_length_8abf5 2 rfl) ?_
  refine x_aload_n (x_at tdJ0_length_8abf5 3 rfl) rfl rfl ?_
  refine x_callO (as := []) (rest := [.int (nI (zs_len.getD i 0))]) (Kc := fun r S' => r = some (.int 0) ∧ S = S') mi_J0_coder_7d493 (zo_O hi) (x_at tdJ0_length_8abf5 4 rfl) wm_J0_335 rfl (Nat.le_of_ble_eq_true rfl) rfl (j_coder hi ⟨rfl, rfl⟩) (fun r S' q => ?_)
  obtain ⟨rfl, rfl⟩ := q
  refine x_ishr (x_at tdJ0_length_8abf5 5 rfl) ?_
  rw [zs_shr0]
  exact x_ireturn rfl rfl (x_at tdJ0_length_8abf5 6 rfl) H
set_option maxRecDepth 100000 in
theorem j_checkP {x n : Int32} {v : Value} (hv : v = .null ∨ ∃ t, v = .ref t) (h0 : ¬ x < 0) (h1 : x < n) (H : K (some (.int x)) S) : E (gC h) d mYJ3_checkIndex_8e157 [.int x, .int n, v] S K := by
  refine x_enter pn_J3 (by rcases hv with rfl | ⟨t, rfl⟩ <;> exact Nat.le_of_ble_eq_true rfl) ?_
  refine x_weak (lv' := [(0, .int x), (1, .int n)]) ⟨rfl, rfl, trivial⟩ ?_
  refine x_iload_n (x_at tdJ3_checkIndex_8e157 0 rfl) rfl rfl ?_
  refine x_if_lt 9 (x_at tdJ3_checkIndex_8e157 1 rfl) (by decide) (fun q => absurd q h0) (fun _ => ?_)
  refine x_iload_n (x_at tdJ3_checkIndex_8e157 2 rfl) rfl rfl ?_
  refine x_iload_n (x_at tdJ3_checkIndex_8e157 3 rfl) rfl rfl ?_
  refine x_ic_lt 16 (x_at tdJ3_checkIndex_8e157 4 rfl) (by decide) (fun _ => ?_) (fun q => absurd h1 q)
  refine x_iload_n (x_at tdJ3_checkIndex_8e157 10 rfl) rfl rfl ?_
  exact x_ireturn rfl rfl (x_at tdJ3_checkIndex_8e157 11 rfl) H
set_option maxRecDepth 100000 in
theorem j_check {x n : Int32} (h0 : ¬ x < 0) (h1 : x < n) (H : K none S) : E (gC h) (d + 1) mYJ0_checkIndex_df160 [.int x, .int n] S K := by
  refine x_enter pn_J0 (Nat.le_of_ble_eq_true rfl) ?_
  refine x_iload_n (x_at tdJ0_checkIndex_df160 0 rfl) rfl rfl ?_
  refine x_iload_n (x_at tdJ0_checkIndex_df160 1 rfl) rfl rfl ?_
  have go : ∀ v : Value, (v = .null ∨ ∃ t, v = .ref t) → X (gC h) (d + 1) mYJ0_checkIndex_df160 (2 + 3) (lv_args 0 [.int x, .int n]) [v, .int n, .int x] S K := by
    intro v hv
    refine x_callS (as := [.int x, .int n, v]) (rest := []) (Kc := fun r S' => r = some (.int x) ∧ S = S') mi_J3_checkIndex_8e157 (x_at tdJ0_checkIndex_df160 3 rfl) wm_J0_1059 rfl (Nat.le_of_ble_eq_true rfl) rfl (j_checkP hv h0 h1 ⟨rfl, rfl⟩) (fun r S' q => ?_)
    obtain ⟨rfl, rfl⟩ := q
    refine x_pop (x_at tdJ0_checkIndex_df160 4 rfl) rfl ?_
    exact x_return rfl (x_at tdJ0_checkIndex_df160 5 rfl) H
  exact x_getZq zo_Q (x_at tdJ0_checkIndex_df160 2 rfl) wf_J0_1053 (go _ (Or.inl rfl)) (fun t => go _ (Or.inr ⟨t, rfl⟩))
/-- every byte of both constants is below 128 -/
theorem zs_small : ∀ i, i < 2 → ∀ b ∈ zs_byt.getD i [], b &&& 255 = b ∧ (b.toUInt32 % 65536).toInt32 = b ∧ narrow .char (.int b) = .int b ∧ b.toInt8.toInt32 = b := by decide +kernel
theorem zs_lenE : ∀ i, i < 2 → zs_len.getD i 0 = (zs_byt.getD i []).length := by decide +kernel
theorem zs_lmem {l : List Int32} {k : Nat} (hk : k < l.length) : l.getD k 0 ∈ l := by
  rw [List.getD_eq_getElem?_getD, List.getElem?_eq_getElem hk]
  exact List.getElem_mem hk
theorem zs_mem (hi : i < 2) {k : Nat} (hk : k < zs_len.getD i 0) : (zs_byt.getD i []).getD k 0 ∈ zs_byt.getD i [] := by
  rw [zs_lenE i hi] at hk
  exact zs_lmem hk
set_option maxRecDepth 100000 in
theorem j_charAt1 (hi : i < 2) {k : Nat} (hk : k < zs_len.getD i 0) (H : K (some (.int ((zs_byt.getD i []).getD k 0))) S) : E (gC h) (d + 2) mYJ1_charAt_3b067 [.ref (x_ad (gC h) (1002 + i)), .int (nI k)] S K := by
  have hs := zs_len_small hi
  obtain ⟨e1, e2, e3, -⟩ := zs_small i hi _ (zs_mem hi hk)
  refine x_enter pn_J1 (Nat.le_of_ble_eq_true rfl) ?_
  refine x_iload_n (x_at tdJ1_charAt_3b067 0 rfl) rfl rfl ?_
  refine x_aload_n (x_at tdJ1_charAt_3b067 1 rfl) rfl rfl ?_
  refine x_tlen (zo_T hi) (x_at tdJ1_charAt_3b067 2 rfl) ?_
  refine x_callS (as := [.int (nI k), .int (nI (zs_len.getD i 0))]) (rest := []) (Kc := fun r S' => r = none ∧ S = S') mi_J0_checkIndex_df160 (x_at tdJ1_charAt_3b067 3 rfl) wm_J1_9 rfl (Nat.le_of_ble_eq_true rfl) rfl (j_check (nI_pos (by omega)) (nI_lt hk (by omega)) ⟨rfl, rfl⟩) (fun r S' q => ?_)
  obtain ⟨rfl, rfl⟩ := q
  refine x_aload_n (x_at tdJ1_charAt_3b067 4 rfl) rfl rfl ?_
  refine x_iload_n (x_at tdJ1_charAt_3b067 5 rfl) rfl rfl ?_
  refine x_tb (zo_T hi) (vp_in_nI hk (by omega)) (v := .int ((zs_byt.getD i []).getD k 0)) (by rw [nI_clamp (by omega)]) (x_at tdJ1_charAt_3b067 6 rfl) ?_
  refine x_sipush (x_at tdJ1_charAt_3b067 7 rfl) (v := 255) (by decide) ?_
  refine x_iand (x_at tdJ1_charAt_3b067 8 rfl) ?_
  rw [e1]
  refine x_i2c (x_at tdJ1_charAt_3b067 9 rfl) ?_
  rw [e2]
  exact x_ireturn rfl e3 (x_at tdJ1_charAt_3b067 10 rfl) H
set_option maxRecDepth 100000 in
theorem j_charAt (hi : i < 2) {k : Nat} (hk : k < zs_len.getD i 0) (H : K (some (.int ((zs_byt.getD i []).getD k 0))) S) : E (gC h) (d + 3) mYJ0_charAt_5068e [.ref (x_ad (gC h) (1000 + i)), .int (nI k)] S K := by
  obtain ⟨e1, e2, e3, -⟩ := zs_small i hi _ (zs_mem hi hk)
  refine x_enter pn_J0 (Nat.le_of_ble_eq_true rfl) ?_
  refine x_aload_n (x_at tdJ0_charAt_5068e 0 rfl) rfl rfl ?_
  refine x_callO (as := []) (rest := []) (Kc := fun r S' => r = some (.int 1) ∧ S = S') mi_J0_isLatin1_aae02 (zo_O hi) (x_at tdJ0_charAt_5068e 1 rfl) wm_J0_492 rfl (Nat.le_of_ble_eq_true rfl) rfl (j_isLatin1 hi ⟨rfl, rfl⟩) (fun r S' q => ?_)
  obtain ⟨rfl, rfl⟩ := q
  refine x_if_eq 16 (x_at tdJ0_charAt_5068e 2 rfl) (by decide) (fun q => absurd q (by decide)) (fun _ => ?_)
  refine x_aload_n (x_at tdJ0_charAt_5068e 3 rfl) rfl rfl ?_
  refine x_getO (zo_V hi) (x_at tdJ0_charAt_5068e 4 rfl) wf_J0_9 ?_
  refine x_iload_n (x_at tdJ0_charAt_5068e 5 rfl) rfl rfl ?_
  refine x_callS (as := [.ref (x_ad (gC h) (1002 + i)), .int (nI k)]) (rest := []) (Kc := fun r S' => r = some (.int ((zs_byt.getD i []).getD k 0)) ∧ S = S') mi_J1_charAt_3b067 (x_at tdJ0_charAt_5068e 6 rfl) wm_J0_495 rfl (Nat.le_of_ble_eq_true rfl) rfl (j_charAt1 hi hk ⟨rfl, rfl⟩) (fun r S' q => ?_)
  obtain ⟨rfl, rfl⟩ := q
  exact x_ireturn rfl e3 (x_at tdJ0_charAt_5068e 7 rfl) H
set_option maxRecDepth 100000 in
theorem j_canEncode {c : Int32} (H : K (some (.int (if c < 0 ∨ 255 < c then 0 else 1))) S) : E (gC h) d mYJ1_canEncode_9a6ad [.int c] S K := by
  refine x_enter pn_J1 (Nat.le_of_ble_eq_true rfl) ?_
  have no : (c < 0 ∨ 255 < c) → X (gC h) d mYJ1_canEncode_9a6ad 15 (lv_args 0 [.int c]) [] S K := by
    intro q
    rw [if_pos q] at H
    refine x_iconst (x_at tdJ1_canEncode_9a6ad 7 rfl) (v := 0) (by decide) ?_
    exact x_ireturn rfl (by decide +kernel) (x_at tdJ1_canEncode_9a6ad 8 rfl) H
  refine x_iload_n (x_at tdJ1_canEncode_9a6ad 0 rfl) rfl rfl ?_
  refine x_if_lt 15 (x_at tdJ1_canEncode_9a6ad 1 rfl) (by decide) (fun q => no (Or.inl q)) (fun q0 => ?_)
  refine x_iload_n (x_at tdJ1_canEncode_9a6ad 2 rfl) rfl rfl ?_
  refine x_sipush (x_at tdJ1_canEncode_9a6ad 3 rfl) (v := 255) (by decide) ?_
  refine x_ic_gt 15 (x_at tdJ1_canEncode_9a6ad 4 rfl) (by decide) (fun q => no (Or.inr q)) (fun q1 => ?_)
  rw [if_neg (fun q => q.elim q0 q1)] at H
  refine x_iconst (x_at tdJ1_canEncode_9a6ad 5 rfl) (v := 1) (by decide) ?_
  refine x_goto 16 (x_at tdJ1_canEncode_9a6ad 6 rfl) (by decide) ?_
  exact x_ireturn rfl (by decide +kernel) (x_at tdJ1_canEncode_9a6ad 8 rfl) H
-- indexOf on what is left of the text, from place k on
def zs_ixF (c : Int32) : List Int32 → Nat → Int32
  | [], _ => -1
  | b :: l, k => if b = c then nI k else zs_ixF c l (k + 1)
theorem zs_drop {l : List Int32} {k : Nat} {b : Int32} {t : List Int32} (e : l.drop k = b :: t) : k < l.length ∧ l.getD k 0 = b ∧ l.drop (k + 1) = t := by
  have hk : k < l.length := by
    rcases Nat.lt_or_ge k l.length with q | q
    · exact q
    · rw [List.drop_eq_nil_of_le q] at e; cases e
  rw [List.drop_eq_getElem_cons hk] at e
  obtain ⟨e1, e2⟩ := List.cons.inj e
  refine ⟨hk, ?_, e2⟩
  rw [List.getD_eq_getElem?_getD, List.getElem?_eq_getElem hk]
  exact e1
set_option maxRecDepth 100000 in
theorem j_ixLoop (hi : i < 2) {n : Nat} (hn : n < 256) : ∀ (l : List Int32) (k : Nat), k ≤ zs_len.getD i 0 → (zs_byt.getD i []).drop k = l → (K (some (.int (zs_ixF (nI n).toInt8.toInt32 l k))) S) → X (gC h) d mYJ1_indexOfChar_4cfef 7 [(0, .ref (x_ad (gC h) (1002 + i))), (3, .int (nI (zs_len.getD i 0))), (4, .int (nI n).toInt8.toInt32), (5, .int (nI k))] [] S K := by
  have hs := zs_len_small hi
  have hlE := zs_lenE i hi
  intro l
  induction l with
  | nil =>
    intro k hk e H
    have q : (zs_byt.getD i []).length ≤ k := List.drop_eq_nil_iff.mp e
    refine x_iload (x_at tdJ1_indexOfChar_4cfef 5 rfl) rfl ?_
    refine x_iload_n (x_at tdJ1_indexOfChar_4cfef 6 rfl) rfl rfl ?_
    refine x_ic_ge 31 (x_at tdJ1_indexOfChar_4cfef 7 rfl) (by decide) (fun _ => ?_) (fun z => absurd (nI_le (by omega) (by omega)) z)
    refine x_iconst (x_at tdJ1_indexOfChar_4cfef 17 rfl) (v := -1) (by decide) ?_
    exact x_ireturn rfl rfl (x_at tdJ1_indexOfChar_4cfef 18 rfl) H
  | cons b l ih =>
    intro k hk e H
    obtain ⟨h1, h2, h3⟩ := zs_drop e
    refine x_iload (x_at tdJ1_indexOfChar_4cfef 5 rfl) rfl ?_
    refine x_iload_n (x_at tdJ1_indexOfChar_4cfef 6 rfl) rfl rfl ?_
    refine x_ic_ge 31 (x_at tdJ1_indexOfChar_4cfef 7 rfl) (by decide) (fun z => absurd z (nI_ge (by omega) (by omega))) (fun _ => ?_)
    refine x_aload_n (x_at tdJ1_indexOfChar_4cfef 8 rfl) rfl rfl ?_
    refine x_iload (x_at tdJ1_indexOfChar_4cfef 9 rfl) rfl ?_
    refine x_tb (zo_T hi) (vp_in_nI (by omega) (by omega)) (v := .int b) (by rw [nI_clamp (by omega), h2]) (x_at tdJ1_indexOfChar_4cfef 10 rfl) ?_
    refine x_iload (x_at tdJ1_indexOfChar_4cfef 11 rfl) rfl ?_
    rw [zs_ixF] at H
    refine x_ic_ne 25 (x_at tdJ1_indexOfChar_4cfef 12 rfl) (by decide) (fun z => ?_) (fun z => ?_)
    · rw [if_neg z] at H
      refine x_iinc (v := nI (k + 1)) (x_at tdJ1_indexOfChar_4cfef 15 rfl) rfl (by rw [nI_succ]; rfl) (by decide) ?_
      refine x_goto 7 (x_at tdJ1_indexOfChar_4cfef 16 rfl) (by decide) ?_
      exact ih (k + 1) (by omega) h3 H
    · rw [if_pos z] at H
      refine x_iload (x_at tdJ1_indexOfChar_4cfef 13 rfl) rfl ?_
      exact x_ireturn rfl rfl (x_at tdJ1_indexOfChar_4cfef 14 rfl) H
set_option maxRecDepth 100000 in
theorem j_ixChar (hi : i < 2) {n : Nat} (hn : n < 256) (H : K (some (.int (zs_ixF (nI n).toInt8.toInt32 (zs_byt.getD i []) 0))) S) : E (gC h) d mYJ1_indexOfChar_4cfef [.ref (x_ad (gC h) (1002 + i)), .int (nI n), .int 0, .int (nI (zs_len.getD i 0))] S K := by
  refine x_enter pn_J1 (Nat.le_of_ble_eq_true rfl) ?_
  refine x_iload_n (x_at tdJ1_indexOfChar_4cfef 0 rfl) rfl rfl ?_
  refine x_i2b (x_at tdJ1_indexOfChar_4cfef 1 rfl) ?_
  refine x_istore (x_at tdJ1_indexOfChar_4cfef 2 rfl) (by decide) ?_
  refine x_iload_n (x_at tdJ1_indexOfChar_4cfef 3 rfl) rfl rfl ?_
  refine x_istore (x_at tdJ1_indexOfChar_4cfef 4 rfl) (by decide) ?_
  refine x_weak (lv' := [(0, .ref (x_ad (gC h) (1002 + i))), (3, .int (nI (zs_len.getD i 0))), (4, .int (nI n).toInt8.toInt32), (5, .int (nI 0))]) ⟨rfl, rfl, rfl, rfl, trivial⟩ ?_
  exact j_ixLoop hi hn _ 0 (Nat.zero_le _) rfl H
theorem zs_pos (hi : i < 2) : 0 < zs_len.getD i 0 := by
  match i, hi with
  | 0, _ => decide
  | 1, _ => decide
set_option maxRecDepth 100000 in
theorem j_index1 (hi : i < 2) {c r : Int32} (hr : (c < 0 ∨ 255 < c) → r = -1) (hr2 : ∀ n, n < 256 → c = nI n → r = zs_ixF (nI n).toInt8.toInt32 (zs_byt.getD i []) 0) (H : K (some (.int r)) S) : E (gC h) (d + 1) mYJ1_indexOf_4cfef [.ref (x_ad (gC h) (1002 + i)), .int c, .int 0, .int (nI (zs_len.getD i 0))] S K := by
  have hs := zs_len_small hi
  refine x_enter pn_J1 (Nat.le_of_ble_eq_true rfl) ?_
  refine x_iload_n (x_at tdJ1_indexOf_4cfef 0 rfl) rfl rfl ?_
  refine x_callS (as := [.int c]) (rest := []) (Kc := fun r S' => r = some (.int (if c < 0 ∨ 255 < c then 0 else 1)) ∧ S = S') mi_J1_canEncode_9a6ad (x_at tdJ1_indexOf_4cfef 1 rfl) wm_J1_88 rfl (Nat.le_of_ble_eq_true rfl) rfl (j_canEncode ⟨rfl, rfl⟩) (fun r S' q => ?_)
  obtain ⟨rfl, rfl⟩ := q
  by_cases ho : c < 0 ∨ 255 < c
  · rw [if_pos ho]
    rw [hr ho] at H
    refine x_if_ne 9 (x_at tdJ1_indexOf_4cfef 2 rfl) (by decide) (fun z => absurd rfl z) (fun _ => ?_)
    refine x_iconst (x_at tdJ1_indexOf_4cfef 3 rfl) (v := -1) (by decide) ?_
    exact x_ireturn rfl rfl (x_at tdJ1_indexOf_4cfef 4 rfl) H
  · rw [if_neg ho]
    obtain ⟨n, hn, rfl⟩ := nI_of (fun z => ho (Or.inl z))
    have h256 : n < 256 := by
      rcases Nat.lt_or_ge n 256 with q | q
      · exact q
      · exact absurd (Or.inr (nI_lt (a := 255) (b := n) (by omega) hn)) ho
    rw [hr2 n h256 rfl] at H
    refine x_if_ne 9 (x_at tdJ1_indexOf_4cfef 2 rfl) (by decide) (fun _ => ?_) (fun z => absurd z (by decide))
    refine x_iload_n (x_at tdJ1_indexOf_4cfef 5 rfl) rfl rfl ?_
    refine x_iconst (x_at tdJ1_indexOf_4cfef 6 rfl) (v := 0) (by decide) ?_
    refine x_mmax wm_J1_92 ws_max wi_J9 wc_max (x_at tdJ1_indexOf_4cfef 7 rfl) (by decide) ?_
    refine x_top (v := 0) rfl ?_
    refine x_istore_n (x_at tdJ1_indexOf_4cfef 8 rfl) rfl (by decide) ?_
    refine x_iload_n (x_at tdJ1_indexOf_4cfef 9 rfl) rfl rfl ?_
    refine x_aload_n (x_at tdJ1_indexOf_4cfef 10 rfl) rfl rfl ?_
    refine x_tlen (zo_T hi) (x_at tdJ1_indexOf_4cfef 11 rfl) ?_
    refine x_mmin wm_J1_38 ws_min wi_J9 wc_min (x_at tdJ1_indexOf_4cfef 12 rfl) (by decide) ?_
    refine x_top (v := nI (zs_len.getD i 0)) (ite_self _) ?_
    refine x_istore_n (x_at tdJ1_indexOf_4cfef 13 rfl) rfl (by decide) ?_
    refine x_iload_n (x_at tdJ1_indexOf_4cfef 14 rfl) rfl rfl ?_
    refine x_iload_n (x_at tdJ1_indexOf_4cfef 15 rfl) rfl rfl ?_
    refine x_ic_lt 29 (x_at tdJ1_indexOf_4cfef 16 rfl) (by decide) (fun _ => ?_) (fun z => absurd (nI_lt (zs_pos hi) (by omega)) z)
    refine x_aload_n (x_at tdJ1_indexOf_4cfef 19 rfl) rfl rfl ?_
    refine x_iload_n (x_at tdJ1_indexOf_4cfef 20 rfl) rfl rfl ?_
    refine x_iload_n (x_at tdJ1_indexOf_4cfef 21 rfl) rfl rfl ?_
    refine x_iload_n (x_at tdJ1_indexOf_4cfef 22 rfl) rfl rfl ?_
    refine x_callS (as := [.ref (x_ad (gC h) (1002 + i)), .int (nI n), .int 0, .int (nI (zs_len.getD i 0))]) (rest := []) mi_J1_indexOfChar_4cfef (x_at tdJ1_indexOf_4cfef 23 rfl) wm_J1_95 rfl (Nat.le_of_ble_eq_true rfl) rfl (j_ixChar (K := fun r S' => r = some (.int (zs_ixF (nI n).toInt8.toInt32 (zs_byt.getD i []) 0)) ∧ S = S') hi h256 ⟨rfl, rfl⟩) (fun r S' q => ?_)
    obtain ⟨rfl, rfl⟩ := q
    exact x_ireturn rfl rfl (x_at tdJ1_indexOf_4cfef 24 rfl) H
set_option maxRecDepth 100000 in
theorem j_index2 (hi : i < 2) {c r : Int32} (hr : (c < 0 ∨ 255 < c) → r = -1) (hr2 : ∀ n, n < 256 → c = nI n → r = zs_ixF (nI n).toInt8.toInt32 (zs_byt.getD i []) 0) (H : K (some (.int r)) S) : E (gC h) (d + 2) mYJ0_indexOf_7cf53 [.ref (x_ad (gC h) (1000 + i)), .int c, .int 0] S K := by
  refine x_enter pn_J0 (Nat.le_of_ble_eq_true rfl) ?_
  refine x_aload_n (x_at tdJ0_indexOf_7cf53 0 rfl) rfl rfl ?_
  refine x_callO (as := []) (rest := []) (Kc := fun r S' => r = some (.int 1) ∧ S = S') mi_J0_isLatin1_aae02 (zo_O hi) (x_at tdJ0_indexOf_7cf53 1 rfl) wm_J0_492 rfl (Nat.le_of_ble_eq_true rfl) rfl (j_isLatin1 hi ⟨rfl, rfl⟩) (fun r S' q => ?_)
  obtain ⟨rfl, rfl⟩ := q
  refine x_if_eq 23 (x_at tdJ0_indexOf_7cf53 2 rfl) (by decide) (fun q => absurd q (by decide)) (fun _ => ?_)
  refine x_aload_n (x_at tdJ0_indexOf_7cf53 3 rfl) rfl rfl ?_
  refine x_getO (zo_V hi) (x_at tdJ0_indexOf_7cf53 4 rfl) wf_J0_9 ?_
  refine x_iload_n (x_at tdJ0_indexOf_7cf53 5 rfl) rfl rfl ?_
  refine x_iload_n (x_at tdJ0_indexOf_7cf53 6 rfl) rfl rfl ?_
  refine x_aload_n (x_at tdJ0_indexOf_7cf53 7 rfl) rfl rfl ?_
  refine x_callO (as := []) (rest := [.int 0, .int c, .ref (x_ad (gC h) (1002 + i))]) (Kc := fun r S' => r = some (.int (nI (zs_len.getD i 0))) ∧ S = S') mi_J0_length_8abf5 (zo_O hi) (x_at tdJ0_indexOf_7cf53 8 rfl) wm_J0_505 rfl (Nat.le_of_ble_eq_true rfl) rfl (j_length hi ⟨rfl, rfl⟩) (fun r S' q => ?_)
  obtain ⟨rfl, rfl⟩ := q
  refine x_callS (as := [.ref (x_ad (gC h) (1002 + i)), .int c, .int 0, .int (nI (zs_len.getD i 0))]) (rest := []) (Kc := fun r' S' => r' = some (.int r) ∧ S = S') mi_J1_indexOf_4cfef (x_at tdJ0_indexOf_7cf53 9 rfl) wm_J0_637 rfl (Nat.le_of_ble_eq_true rfl) rfl (j_index1 hi hr hr2 ⟨rfl, rfl⟩) (fun r S' q => ?_)
  obtain ⟨rfl, rfl⟩ := q
  refine x_goto 36 (x_at tdJ0_indexOf_7cf53 10 rfl) (by decide) ?_
  exact x_ireturn rfl rfl (x_at tdJ0_indexOf_7cf53 18 rfl) H
set_option maxRecDepth 100000 in
theorem j_index (hi : i < 2) {c r : Int32} (hr : (c < 0 ∨ 255 < c) → r = -1) (hr2 : ∀ n, n < 256 → c = nI n → r = zs_ixF (nI n).toInt8.toInt32 (zs_byt.getD i []) 0) (H : K (some (.int r)) S) : E (gC h) (d + 3) mYJ0_indexOf_0f7a4 [.ref (x_ad (gC h) (1000 + i)), .int c] S K := by
  refine x_enter pn_J0 (Nat.le_of_ble_eq_true rfl) ?_
  refine x_aload_n (x_at tdJ0_indexOf_0f7a4 0 rfl) rfl rfl ?_
  refine x_iload_n (x_at tdJ0_indexOf_0f7a4 1 rfl) rfl rfl ?_
  refine x_iconst (x_at tdJ0_indexOf_0f7a4 2 rfl) (v := 0) (by decide) ?_
  refine x_callO (as := [.int c, .int 0]) (rest := []) (Kc := fun r' S' => r' = some (.int r) ∧ S = S') mi_J0_indexOf_7cf53 (zo_O hi) (x_at tdJ0_indexOf_0f7a4 3 rfl) wm_J0_633 rfl (Nat.le_of_ble_eq_true rfl) rfl (j_index2 hi hr hr2 ⟨rfl, rfl⟩) (fun r S' q => ?_)
  obtain ⟨rfl, rfl⟩ := q
  exact x_ireturn rfl rfl (x_at tdJ0_indexOf_0f7a4 4 rfl) H
end
section
-- the two sides of 'the same byte'
theorem zs_ixEq : ∀ (l : List Nat) (k : Nat) (c : Int32), zs_ixF c (l.map nI) k = zs_ix l k c
  | [], _, _ => rfl
  | b :: t, k, c => by
    show (if nI b = c then nI k else zs_ixF c (t.map nI) (k + 1)) = if nI b = c then nI k else zs_ix t (k + 1) c
    rw [zs_ixEq t (k + 1) c]
theorem zs_ixOut (c : Int32) : ∀ (l : List Nat) (k : Nat), (∀ b ∈ l, ¬ nI b = c) → zs_ix l k c = -1
  | [], _, _ => rfl
  | b :: t, k, h => by
    show (if nI b = c then nI k else zs_ix t (k + 1) c) = -1
    rw [if_neg (h b List.mem_cons_self)]
    exact zs_ixOut c t (k + 1) (fun x hx => h x (List.mem_cons_of_mem _ hx))
theorem zs_i8 : ∀ n, n < 128 → (nI n).toInt8.toInt32 = nI n := by decide +kernel
theorem zs_i8' : ∀ n, n < 256 → 128 ≤ n → (nI n).toInt8.toInt32 < 0 := by decide +kernel
theorem zs_b1s : ∀ b ∈ zs_b1, b < 128 := by decide +kernel
theorem zs_index_out {c : Int32} (h : c < 0 ∨ 255 < c) : zs_index1 c = -1 := by
  refine zs_ixOut c _ _ (fun b hb e => ?_)
  have h1 := zs_b1s b hb
  subst e
  rcases h with h | h
  · exact nI_pos (by omega) h
  · exact nI_nlt (a := 255) (b := b) (by omega) (by omega) h
theorem zs_index_in {n : Nat} (hn : n < 256) : zs_index1 (nI n) = zs_ixF (nI n).toInt8.toInt32 (zs_byt.getD 1 []) 0 := by
  show zs_ix zs_b1 0 (nI n) = zs_ixF (nI n).toInt8.toInt32 (zs_b1.map nI) 0
  rw [zs_ixEq]
  rcases Nat.lt_or_ge n 128 with q | q
  · rw [zs_i8 n q]
  · rw [zs_ixOut (nI n) zs_b1 0 (fun b hb e => by
      have h1 := zs_b1s b hb
      have h2 := (nI_eq (a := b) (b := n) (by omega) (by omega)).mp e
      omega), zs_ixOut _ zs_b1 0 (fun b hb e => by
      have h1 := zs_b1s b hb
      have h2 := zs_i8' n hn q
      rw [← e] at h2
      exact nI_pos (by omega) h2)]
theorem zs_char_eq {i : Int32} : (zs_byt.getD 0 []).getD i.toNatClampNeg 0 = zs_char0 i := by
  show (zs_b0.map nI).getD i.toNatClampNeg 0 = nI (zs_b0.getD i.toNatClampNeg 0)
  rw [List.getD_eq_getElem?_getD, List.getD_eq_getElem?_getD, List.getElem?_map]
  cases zs_b0[i.toNatClampNeg]? <;> rfl
theorem z_ldc0 {h : xH} {d : Nat} {Y : xY} {pc : Nat} {lv : List (Nat × Value)} {st : List Value} {S : xSt} {K : Option Value → xSt → Prop} (hd : decode Y.2.1 pc = .ok (.ldc 70, 2)) (hY : Y.1.cls = RX7) (H : X (gC h) d Y (pc + 2) lv (.ref (x_ad (gC h) 1000) :: st) S K) : X (gC h) d Y pc lv st S K := x_ldcS hd (fun _ hz => by rw [hY]; exact hz.1) H
theorem z_ldc1 {h : xH} {d : Nat} {Y : xY} {pc : Nat} {lv : List (Nat × Value)} {st : List Value} {S : xSt} {K : Option Value → xSt → Prop} (hd : decode Y.2.1 pc = .ok (.ldc 60, 2)) (hY : Y.1.cls = RX7) (H : X (gC h) d Y (pc + 2) lv (.ref (x_ad (gC h) 1001) :: st) S K) : X (gC h) d Y pc lv st S K := x_ldcS hd (fun _ hz => by rw [hY]; exact hz.2.1) H
theorem z_len0 {h : xH} {d : Nat} {Y : xY} {pc : Nat} {lv : List (Nat × Value)} {st : List Value} {S : xSt} {K : Option Value → xSt → Prop} {ix : Nat} (hd : decode Y.2.1 pc = .ok (.invokevirtual ix, 3)) (hY : Cond.methodLink Y.1.cls ix yJ0_length_8abf5 ∈ x_TT) (hr : (st.map fun v => v.category).sum ≤ 8) (H : X (gC h) (d + 8) Y (pc + 3) lv (.int zs_len0 :: st) S K) : X (gC h) (d + 8) Y pc lv (.ref (x_ad (gC h) 1000) :: st) S K :=
  x_callO (d := d + 7) (as := []) (rest := st) (Kc := fun r S' => r = some (.int (nI 114)) ∧ S = S') mi_J0_length_8abf5 (zo_O (i := 0) (by decide)) hd hY rfl hr rfl (j_length (d := d + 6) (i := 0) (by decide) ⟨rfl, rfl⟩) (fun r S' q => by
    obtain ⟨rfl, rfl⟩ := q
    exact H)
theorem z_charAt0 {h : xH} {d : Nat} {Y : xY} {pc : Nat} {lv : List (Nat × Value)} {st : List Value} {S : xSt} {K : Option Value → xSt → Prop} {ix : Nat} {i : Int32} (hd : decode Y.2.1 pc = .ok (.invokevirtual ix, 3)) (hY : Cond.methodLink Y.1.cls ix yJ0_charAt_5068e ∈ x_TT) (hr : (st.map fun v => v.category).sum ≤ 8) (hi : vp_in i zs_n0) (H : X (gC h) (d + 8) Y (pc + 3) lv (.int (zs_char0 i) :: st) S K) : X (gC h) (d + 8) Y pc lv (.int i :: .ref (x_ad (gC h) 1000) :: st) S K := by
  obtain ⟨k, hk, rfl⟩ : ∃ k, k < 114 ∧ i = nI k := by
    obtain ⟨k, hk, rfl⟩ := nI_of (fun z => hi (Or.inl z))
    refine ⟨k, ?_, rfl⟩
    rcases Nat.lt_or_ge k 114 with q | q
    · exact q
    · exact absurd (Or.inr (by rw [nI_clamp hk]; exact q)) hi
  refine x_callO (d := d + 7) (as := [.int (nI k)]) (rest := st) (Kc := fun r S' => r = some (.int ((zs_byt.getD 0 []).getD k 0)) ∧ S = S') mi_J0_charAt_5068e (zo_O (i := 0) (by decide)) hd hY rfl hr rfl (j_charAt (d := d + 4) (i := 0) (by decide) hk ⟨rfl, rfl⟩) (fun r S' q => ?_)
  obtain ⟨rfl, rfl⟩ := q
  have e := zs_char_eq (i := nI k)
  rw [nI_clamp (by omega)] at e
  rw [e]
  exact H
theorem z_indexOf1 {h : xH} {d : Nat} {Y : xY} {pc : Nat} {lv : List (Nat × Value)} {st : List Value} {S : xSt} {K : Option Value → xSt → Prop} {ix : Nat} {c : Int32} (hd : decode Y.2.1 pc = .ok (.invokevirtual ix, 3)) (hY : Cond.methodLink Y.1.cls ix yJ0_indexOf_0f7a4 ∈ x_TT) (hr : (st.map fun v => v.category).sum ≤ 8) (H : X (gC h) (d + 8) Y (pc + 3) lv (.int (zs_index1 c) :: st) S K) : X (gC h) (d + 8) Y pc lv (.int c :: .ref (x_ad (gC h) 1001) :: st) S K := by
  refine x_callO (d := d + 7) (as := [.int c]) (rest := st) (Kc := fun r S' => r = some (.int (zs_index1 c)) ∧ S = S') mi_J0_indexOf_0f7a4 (zo_O (i := 1) (by decide)) hd hY rfl hr rfl (j_index (d := d + 4) (i := 1) (by decide) zs_index_out (fun n hn e => by rw [e]; exact zs_index_in hn) ⟨rfl, rfl⟩) (fun r S' q => ?_)
  obtain ⟨rfl, rfl⟩ := q
  exact H
end
