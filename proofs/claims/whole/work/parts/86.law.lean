section
-- THE LAW'S FRAME: machine; launch, classes, array classes, addresses of both systems; the script; what was made
abbrev lV : Type := (Program × Env × State × MethodId × List Frame × Method × Code) × (Launch × va_G × (Nat → ClassId) × (Nat → Nat) × (Nat → Nat)) × (Nat × Nat × (Nat → Int32)) × Nat × Nat
abbrev lcH (v : lV) : xH := (v.2.1.1, v.2.1.2.1, v.2.1.2.2.1, v.2.1.2.2.2.1, fun _ => True)
abbrev lmH (v : lV) : xH := (v.2.1.1, v.2.1.2.1, v.2.1.2.2.1, v.2.1.2.2.2.2, fun _ => True)
abbrev lA (v : lV) : Nat → Prop := fun q => v.1.2.2.1.heap.size ≤ q
abbrev lLv (v : lV) (i : Int32) : List (Nat × Value) := [(0, .ref v.2.2.1.1), (1, .ref (v.2.1.2.2.2.1 0)), (2, .ref (v.2.1.2.2.2.2 0)), (3, .int i)]
abbrev lL (v : lV) : Nat := v.2.2.1.2.1
abbrev lX (v : lV) : Nat → Int32 := v.2.2.1.2.2
def LC (v : lV) : Prop := lw_At v.1.1 v.1.2.2.1 v.1.2.2.2.1 v.1.2.2.2.2.2.1 v.1.2.2.2.2.2.2 v.2.2.1.1 v.2.2.1.2.1 v.2.2.1.2.2 ∧ va_K v.2.1.2.1 vwCl (x_tys (gC (lcH v))) v.1.2.2.1 ∧ x_ok (gC (lcH v)) ∧ x_ok (gM (lmH v)) ∧ zsZ (lA v) v.2.1.2.2.2.1 v.1.2.2.1 ∧ (∀ q, x_A (gC (lcH v)) q → lA v q) ∧ (∀ q, x_A (gM (lmH v)) q → lA v q) ∧ (∀ q, x_A (gC (lcH v)) q → ¬ x_A (gM (lmH v)) q) ∧ v.2.2.1.2.1 ≤ 3072 ∧ v.2.2.2.1 ≤ 600000 ∧ v.2.2.2.2 ≤ 7302250
def XL (v : lV) (pc : Nat) (st : List Value) (i : Int32) (S M : xSt) : Prop :=
  LC v → ∀ (H : Heap) (locs : List Loc) (ls : Array Slot), va_P v.2.1.2.1 vwCl (x_ws (gC (lcH v)) S) H → va_P v.2.1.2.1 vwCl (x_ws (gM (lmH v)) M) H → va_S (lA v) v.1.2.2.1.heap H locs → lv_has ls 4 (lLv v i) →
    W v.1.1 v.2.1.1 v.1.2.1 room_1 v.1.2.2.1 v.1.2.2.2.1 #[Value.ref v.2.2.1.1] v.1.2.2.2.2.1 v.1.2.2.2.2.2.1 v.1.2.2.2.2.2.2 H locs v.2.2.2.1 v.2.2.2.2 (lw_Z v.1.2.2.2.2.1 #[Value.ref v.2.2.1.1] v.1.2.2.1) (F0 v.1.2.2.2.1 pc ls st)
end
section
variable {v : lV} {pc : Nat} {st : List Value} {i : Int32} {S M : xSt}
theorem l_aload {k : Fin 4} {j x : Nat} (hd : decode code pc = .ok (.aload_n k, 1)) (hi : (k : Nat) = j) (hx : x_get (lLv v i) j = some (.ref x)) (h : XL v (pc + 1) (.ref x :: st) i S M) : XL v pc st i S M := by
  intro hv H locs ls hP hM hS hl
  exact lv_aload_n hv.1.1 hv.1.2.1 hd hi (x_get_at hl hx) (h hv H locs ls hP hM hS hl)
theorem l_iload (hd : decode code pc = .ok (.iload_n 3, 1)) (h : XL v (pc + 1) (.int i :: st) i S M) : XL v pc st i S M := by
  intro hv H locs ls hP hM hS hl
  exact lv_iload_n hv.1.1 hv.1.2.1 hd rfl (x_get_at (v := .int i) (i := 3) hl rfl) (h hv H locs ls hP hM hS hl)
theorem l_iconst {n : Int} {x : Int32} (hd : decode code pc = .ok (.iconst n, 1)) (hx : Int32.ofInt n = x) (h : XL v (pc + 1) (.int x :: st) i S M) : XL v pc st i S M := by
  intro hv H locs ls hP hM hS hl
  exact lv_iconst hv.1.1 hv.1.2.1 hd hx (h hv H locs ls hP hM hS hl)
theorem l_bipush {n : Int} {x : Int32} (hd : decode code pc = .ok (.bipush n, 2)) (hx : (Int8.ofInt n).toInt32 = x) (h : XL v (pc + 2) (.int x :: st) i S M) : XL v pc st i S M := by
  intro hv H locs ls hP hM hS hl
  exact lv_bipush hv.1.1 hv.1.2.1 hd hx (h hv H locs ls hP hM hS hl)
theorem l_iadd {x y : Int32} (hd : decode code pc = .ok (.iadd, 1)) (h : XL v (pc + 1) (.int (x + y) :: st) i S M) : XL v pc (.int y :: .int x :: st) i S M := by
  intro hv H locs ls hP hM hS hl
  exact lv_iadd hv.1.1 hv.1.2.1 hd (h hv H locs ls hP hM hS hl)
theorem l_isub {x y : Int32} (hd : decode code pc = .ok (.isub, 1)) (h : XL v (pc + 1) (.int (x - y) :: st) i S M) : XL v pc (.int y :: .int x :: st) i S M := by
  intro hv H locs ls hP hM hS hl
  exact lv_isub hv.1.1 hv.1.2.1 hd (h hv H locs ls hP hM hS hl)
theorem l_iand {x y : Int32} (hd : decode code pc = .ok (.iand, 1)) (h : XL v (pc + 1) (.int (x &&& y) :: st) i S M) : XL v pc (.int y :: .int x :: st) i S M := by
  intro hv H locs ls hP hM hS hl
  exact lv_iand hv.1.1 hv.1.2.1 hd (h hv H locs ls hP hM hS hl)
theorem l_goto {off : Int} (tgt : Nat) (hd : decode code pc = .ok (.goto off, 3)) (hg : (pc : Int) + off = (tgt : Int)) (h : XL v tgt st i S M) : XL v pc st i S M := by
  intro hv H locs ls hP hM hS hl
  exact lv_goto hv.1.1 hv.1.2.1 hd hg (h hv H locs ls hP hM hS hl)
theorem l_if_eq {x : Int32} {off : Int} (tgt : Nat) (hd : decode code pc = .ok (.ifCond .eq off, 3)) (hg : (pc : Int) + off = (tgt : Int)) (ht : x = 0 → XL v tgt st i S M) (hf : ¬ x = 0 → XL v (pc + 3) st i S M) : XL v pc (.int x :: st) i S M := by
  intro hv H locs ls hP hM hS hl
  exact lv_if_eq hv.1.1 hv.1.2.1 hd hg (fun q => ht q hv H locs ls hP hM hS hl) (fun q => hf q hv H locs ls hP hM hS hl)
theorem l_ic_eq {x y : Int32} {off : Int} (tgt : Nat) (hd : decode code pc = .ok (.if_icmp .eq off, 3)) (hg : (pc : Int) + off = (tgt : Int)) (he : x = y) (h : XL v tgt st i S M) : XL v pc (.int y :: .int x :: st) i S M := by
  intro hv H locs ls hP hM hS hl
  exact lv_icmp_eq hv.1.1 hv.1.2.1 hd hg (fun _ => h hv H locs ls hP hM hS hl) (fun q => absurd he q)
theorem l_ic_gt {x y : Int32} {off : Int} (tgt : Nat) (hd : decode code pc = .ok (.if_icmp .gt off, 3)) (hg : (pc : Int) + off = (tgt : Int)) (ht : y < x → XL v tgt st i S M) (hf : ¬ y < x → XL v (pc + 3) st i S M) : XL v pc (.int y :: .int x :: st) i S M := by
  intro hv H locs ls hP hM hS hl
  exact lv_icmp_gt hv.1.1 hv.1.2.1 hd hg (fun q => ht q hv H locs ls hP hM hS hl) (fun q => hf q hv H locs ls hP hM hS hl)
theorem l_lc_eq {x y : Int64} {off : Int} (tgt : Nat) (hd1 : decode code pc = .ok (.lcmp, 1)) (hd : decode code (pc + 1) = .ok (.ifCond .eq off, 3)) (hg : ((pc + 1 : Nat) : Int) + off = (tgt : Int)) (he : x = y) (h : XL v tgt st i S M) : XL v pc (.long y :: .long x :: st) i S M := by
  have h1 : XL v (pc + 1) (.int (lg_cmp x y) :: st) i S M := l_if_eq tgt hd hg (fun _ => h) (fun q => absurd ((lg_cmp_eq x y).mpr he) q)
  intro hv H locs ls hP hM hS hl
  exact W.lcmp hv.1.1 hv.1.2.1 hd1 (h1 hv H locs ls hP hM hS hl)
theorem l_tableOut {dflt lo hi : Int} {offs : Array Int} {len : Nat} {x : Int32} (tgt : Nat) (hd : decode code pc = .ok (.tableswitch dflt lo hi offs, len)) (ho : x.toInt < lo ∨ hi < x.toInt) (hg : (pc : Int) + dflt = (tgt : Int)) (h : XL v tgt st i S M) : XL v pc (.int x :: st) i S M := by
  intro hv H locs ls hP hM hS hl
  exact lv_tableOut hv.1.1 hv.1.2.1 hd ho hg (h hv H locs ls hP hM hS hl)
theorem l_tableIn {dflt lo hi : Int} {offs : Array Int} {len : Nat} {x : Int32} {off : Int} (tgt : Nat) (hd : decode code pc = .ok (.tableswitch dflt lo hi offs, len)) (h1 : ¬ x.toInt < lo) (h2 : ¬ hi < x.toInt) (ho : offs[(x.toInt - lo).toNat]? = some off) (hg : (pc : Int) + off = (tgt : Int)) (h : XL v tgt st i S M) : XL v pc (.int x :: st) i S M := by
  intro hv H locs ls hP hM hS hl
  exact lv_tableIn hv.1.1 hv.1.2.1 hd h1 h2 ho hg (h hv H locs ls hP hM hS hl)
theorem l_tab {dflt hi : Int} {offs : Array Int} {len k : Nat} {x : Int32} {off : Int} (tgt : Nat) (hd : decode code pc = .ok (.tableswitch dflt 0 hi offs, len)) (hx : x = nI k) (hk : k < 64) (h2 : (k : Int) ≤ hi) (ho : offs[k]? = some off) (hg : (pc : Int) + off = (tgt : Int)) (h : XL v tgt st i S M) : XL v pc (.int x :: st) i S M := by
  subst hx
  have e := nI_toInt (n := k) (by omega)
  exact l_tableIn tgt hd (by rw [e]; omega) (by rw [e]; omega) (by rw [e]; simpa using ho) hg h
theorem l_len (hd : decode code pc = .ok (.arraylength, 1)) (h : XL v (pc + 1) (.int (nI (lL v)) :: st) i S M) : XL v pc (.ref v.2.2.1.1 :: st) i S M := by
  intro hv H locs ls hP hM hS hl
  obtain ⟨⟨hx, hb, hr, hml, hown, hts, hX, hbl, hlocks, hgv⟩, -⟩ := id hv
  exact va_slen hx hb hX hbl (A := lA v) (Nat.not_le.mpr hbl) hS hd (h hv H locs ls hP hM hS hl)
theorem l_ld {j : Nat} {x : Int32} (hx : x = nI j) (hj : j < lL v) (hj2 : j < 2147483648) (hd : decode code pc = .ok (.iaload, 1)) (h : XL v (pc + 1) (.int (lX v j) :: st) i S M) : XL v pc (.int x :: .ref v.2.2.1.1 :: st) i S M := by
  subst hx
  intro hv H locs ls hP hM hS hl
  obtain ⟨⟨hx, hb, hr, hml, hown, hts, hX, hbl, hlocks, hgv⟩, -⟩ := id hv
  have h1 := h hv H locs ls hP hM hS hl
  refine va_sld hx hb hX hbl (A := lA v) (Nat.not_le.mpr hbl) hS (fun z => ?_) hd ?_
  · rcases z with z | z
    · exact nI_pos hj2 z
    · rw [nI_clamp hj2] at z; exact Nat.not_le.mpr hj z
  · rw [nI_clamp hj2]; exact h1
theorem nI_addI (a b : Nat) : nI a + nI b = nI (a + b) := by
  unfold nI
  rw [Int32.ofNat_add]
/-- an argument: script[i + k] -/
theorem l_arg {j k : Nat} {n : Int} (h1 : decode code pc = .ok (.aload_n 0, 1)) (h2 : decode code (pc + 1) = .ok (.iload_n 3, 1)) (h3 : decode code (pc + 1 + 1) = .ok (.iconst n, 1)) (h4 : decode code (pc + 1 + 1 + 1) = .ok (.iadd, 1)) (h5 : decode code (pc + 1 + 1 + 1 + 1) = .ok (.iaload, 1)) (hn : Int32.ofInt n = nI k) (hk : k < 6) (hj : j + 6 ≤ lL v) (hL : lL v ≤ 3072) (h : XL v (pc + 5) (.int (lX v (j + k)) :: st) (nI j) S M) : XL v pc st (nI j) S M :=
  l_aload h1 rfl rfl (l_iload h2 (l_iconst h3 hn (l_iadd h4 (l_ld (nI_addI j k) (by omega) (by omega) h5 h))))
theorem l_callC {d n ix : Nat} {Y' : xY} {as rest : List Value} {Kc : Option Value → xSt → Prop} (hM : x_MV Y' n) (hc : vwCl[11]? = some (Y'.1.cls, TX11, 14)) (hd : decode code pc = .ok (.invokevirtual ix, 3)) (hw : Cond.methodLink R_law ix Y'.1 ∈ x_TT) (hn : as.length = n) (hr : (rest.map fun v => v.category).sum ≤ 8) (hs : st = as.reverse ++ .ref (v.2.1.2.2.2.1 0) :: rest) (hR : d + 1 ≤ 1000)
    (h : E (gC (lcH v)) d Y' (.ref (x_ad (gC (lcH v)) 0) :: as) S Kc) (hk : ∀ r S', Kc r S' → XL v (pc + 3) (r.toList ++ rest) i S' M) : XL v pc st i S M := by
  intro hv H locs ls hP hMM hS hl
  subst hs
  obtain ⟨⟨hx, hb, hrr, hml, hown, hts, hX, hbl, hlocks, hgv⟩, hK, hoC, hoM, hz, hAC, hAM, hdis, hL, hc1, hs1⟩ := id hv
  exact w_callV (G := gC (lcH v)) (A := lA v) (o := 0) hx hb hml hown (fun w hw => hts w (List.mem_filter.mp hw).1) hl.1 hM hc (lC_0 (lcH v)) hd hw hn hr ⟨by show d + 1 ≤ 2048; omega, by show 64 * (d + 1) ≤ 84000; omega⟩ ⟨hc1, hs1⟩ hoC hK (fun U hU hW => (zsZ.warm hz hW (hS.F hU)).narrow hAC) hP hS hAC h (fun r S' H1 locs1 hk1 hP1 hz1 hq1 hS1 => hk r S' hk1 hv H1 locs1 ls hP1 (hMM.kept (fun k x hx => hq1 x.1 (hMM k x hx).lt (fun z => hdis _ z ((x_D hoM M).2 k x hx)))) hS1 hl)
theorem l_callM {d n ix : Nat} {Y' : xY} {as rest : List Value} {Kc : Option Value → xSt → Prop} (hM : x_MV Y' n) (hc : vwCl[12]? = some (Y'.1.cls, TX12, 97)) (hd : decode code pc = .ok (.invokevirtual ix, 3)) (hw : Cond.methodLink R_law ix Y'.1 ∈ x_TT) (hn : as.length = n) (hr : (rest.map fun v => v.category).sum ≤ 8) (hs : st = as.reverse ++ .ref (v.2.1.2.2.2.2 0) :: rest) (hR : d + 1 ≤ 1000)
    (h : E (gM (lmH v)) d Y' (.ref (x_ad (gM (lmH v)) 0) :: as) M Kc) (hk : ∀ r M', Kc r M' → XL v (pc + 3) (r.toList ++ rest) i S M') : XL v pc st i S M := by
  intro hv H locs ls hP hMM hS hl
  subst hs
  obtain ⟨⟨hx, hb, hrr, hml, hown, hts, hX, hbl, hlocks, hgv⟩, hK, hoC, hoM, hz, hAC, hAM, hdis, hL, hc1, hs1⟩ := id hv
  exact w_callV (G := gM (lmH v)) (A := lA v) (o := 0) hx hb hml hown (fun w hw => hts w (List.mem_filter.mp hw).1) hl.1 hM hc (lM_0 (lmH v)) hd hw hn hr ⟨by show d + 1 ≤ 2048; omega, by show 64 * (d + 1) ≤ 84000; omega⟩ ⟨hc1, hs1⟩ hoM hK (fun _ _ _ => trivial) hMM hS hAM h (fun r M' H1 locs1 hk1 hP1 hz1 hq1 hS1 => hk r M' hk1 hv H1 locs1 ls (hP.kept (fun k x hx => hq1 x.1 (hP k x hx).lt (fun z => hdis _ ((x_D hoC S).2 k x hx) z))) hP1 hS1 hl)
/-- the law's end -/
theorem l_end (h1 : decode code pc = .ok (.iconst 1, 1)) (h2 : decode code (pc + 1) = .ok (.ireturn, 1)) : XL v pc [] i S M := by
  intro hv H locs ls hP hMM hS hl
  obtain ⟨⟨hx, hb, hrr, hml, hown, hts, hX, hbl, hlocks, hgv⟩, hK, hoC, hoM, hz, hAC, hAM, hdis, hL, hc1, hs1⟩ := id hv
  refine lv_iconst (v := 1) hx hb h1 (by decide) ?_
  refine va_forget hS.2.2 ?_
  refine W.widen (k := 600000) (n := 7302250) hc1 hs1 ?_
  exact lw_ret hx hb hrr hlocks h2
/-- the next six -/
theorem l_next {j : Nat} {off : Int} (h1 : decode code pc = .ok (.iinc 3 6, 3)) (h2 : decode code (pc + 3) = .ok (.goto off, 3)) (hg : ((pc + 3 : Nat) : Int) + off = ((18 : Nat) : Int)) (h : XL v 18 [] (nI (j + 6)) S M) : XL v pc [] (nI j) S M := by
  intro hv H locs ls hP hMM hS hl
  have hx := hv.1.1
  have hb := hv.1.2.1
  refine lv_iinc (v := nI (j + 6)) (lv' := [(3, .int (nI (j + 6))), (0, .ref v.2.2.1.1), (1, .ref (v.2.1.2.2.2.1 0)), (2, .ref (v.2.1.2.2.2.2 0))]) hx hb h1 hl (k := 3) rfl (by rw [show Int32.ofInt 6 = nI 6 from by decide]; exact nI_addI j 6) (by decide) rfl (fun ls hl => ?_)
  exact lv_goto hx hb h2 hg (h hv H locs ls hP hMM hS (lv_sub hl [1, 2, 3, 0] rfl))
end
