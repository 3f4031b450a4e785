section
theorem wl_L_7 : Cond.classLink R_law 7 RX11 ∈ x_TT := x_TT_of (tq_1 (List.mem_of_getElem? (i := 22) rfl)) rfl
theorem wl_L_10 : Cond.classLink R_law 10 RX12 ∈ x_TT := x_TT_of (tq_6 (List.mem_of_getElem? (i := 48) rfl)) rfl
theorem wm_L_9 : Cond.methodLink R_law 9 yX11_init ∈ x_TT := x_TT_of (tq_1 (List.mem_of_getElem? (i := 24) rfl)) rfl
theorem wm_L_12 : Cond.methodLink R_law 12 yX12_init ∈ x_TT := x_TT_of (tq_6 (List.mem_of_getElem? (i := 50) rfl)) rfl
theorem wn_X11 : Cond.instantiable RX11 14 ∈ x_TT := x_TT_of (tq_1 (List.mem_of_getElem? (i := 23) rfl)) rfl
theorem wn_X12 : Cond.instantiable RX12 97 ∈ x_TT := x_TT_of (tq_6 (List.mem_of_getElem? (i := 49) rfl)) rfl
def zs_tm (i : Nat) : Term := match i with
  | 0 => .string RX7 70
  | _ => .string RX7 60
theorem zs_e0 : ∀ j, j < 114 → Cond.eq (.elem (.field (zs_tm 0) "java/lang/String" "value" "[B") (.int (Int32.ofNat j))) (.int ((zs_byt.getD 0 []).getD j 0)) ∈ flatC (Jvm.Cond.and given_1 narrow_1) := by decide +kernel
theorem zs_e1 : ∀ j, j < 11 → Cond.eq (.elem (.field (zs_tm 1) "java/lang/String" "value" "[B") (.int (Int32.ofNat j))) (.int ((zs_byt.getD 1 []).getD j 0)) ∈ flatC (Jvm.Cond.and given_1 narrow_1) := by decide +kernel
theorem zs_start {b : Nat} {s : State} (hts : ∀ w ∈ lw_tbl, w.before #[Value.ref b] s = true) (hgv : (Jvm.Cond.and given_1 narrow_1).before #[Value.ref b] s = true) : ∃ z : Nat → Nat, zsZ (fun q => s.heap.size ≤ q) z s := by
  have hs := flat_of_before _ hgv
  have hA : ∀ a : Nat, a < s.heap.size → ¬ s.heap.size ≤ a := fun a h => Nat.not_le.mpr h
  have two : ∀ (P : Nat → Prop), P 0 → P 1 → ∀ i, i < 2 → P i := by
    intro P h0 h1 i hi
    match i, hi with
    | 0, _ => exact h0
    | 1, _ => exact h1
  obtain ⟨aK, aV, hS, hev⟩ := vk_Sof (args := #[Value.ref b]) (s := s) (N := 2) (tm := zs_tm) (len := zs_len) (byt := zs_byt) (A := fun q => s.heap.size ≤ q) (by decide)
    (two (fun i => (Cond.exactly (zs_tm i) "java/lang/String").before #[Value.ref b] s = true) (hs _ (by decide +kernel)) (hs _ (by decide +kernel)))
    (two (fun i => (Cond.eq (.field (zs_tm i) "java/lang/String" "coder" "B") (.int 0)).before #[Value.ref b] s = true) (hs _ (by decide +kernel)) (hs _ (by decide +kernel)))
    (two (fun i => (Cond.arrayOf (.field (zs_tm i) "java/lang/String" "value" "[B") .byte).before #[Value.ref b] s = true) (hs _ (by decide +kernel)) (hs _ (by decide +kernel)))
    (two (fun i => (Cond.eq (.length (.field (zs_tm i) "java/lang/String" "value" "[B")) (.int (Int32.ofNat (zs_len.getD i 0)))).before #[Value.ref b] s = true) (hs _ (by decide +kernel)) (hs _ (by decide +kernel)))
    (two (fun i => ∀ j : Nat, j < zs_len.getD i 0 → (Cond.eq (.elem (.field (zs_tm i) "java/lang/String" "value" "[B") (.int (Int32.ofNat j))) (.int ((zs_byt.getD i []).getD j 0))).before #[Value.ref b] s = true) (fun j hj => hs _ (zs_e0 j hj)) (fun j hj => hs _ (zs_e1 j hj)))
    (fun i j hi hj hne => by
      match i, j, hi, hj, hne with
      | 0, 0, _, _, hne => exact absurd rfl hne
      | 0, 1, _, _, _ => exact Or.inl (hs _ (by decide +kernel))
      | 1, 0, _, _, _ => exact Or.inr (hs _ (by decide +kernel))
      | 1, 1, _, _, hne => exact absurd rfl hne) hA
  have hz : ∃ z : Nat → Nat, (∀ i, i < 2 → z (1000 + i) = aK i) ∧ ∀ i, i < 2 → z (1002 + i) = aV i := by
    refine ⟨fun k => if k < 1002 then aK (k - 1000) else aV (k - 1002), fun i hi => ?_, fun i hi => ?_⟩
    · show (if 1000 + i < 1002 then aK (1000 + i - 1000) else aV (1000 + i - 1002)) = aK i
      rw [if_pos (by omega), Nat.add_sub_cancel_left]
    · show (if 1002 + i < 1002 then aK (1002 + i - 1000) else aV (1002 + i - 1002)) = aV i
      rw [if_neg (by omega), Nat.add_sub_cancel_left]
  obtain ⟨z, z1, z2⟩ := hz
  have r0 : vk_R RX7 70 "man colour holes left deed hours button on by does never until thread after friend wear day storm draw or and not " (aK 0) s := vk_R.of (hts _ (tq_3 (List.mem_of_getElem? (i := 54) rfl))) (hev 0 (by decide))
  have r1 : vk_R RX7 60 ";()<>=+-*/%" (aK 1) s := vk_R.of (hts _ (tq_3 (List.mem_of_getElem? (i := 107) rfl))) (hev 1 (by decide))
  refine ⟨z, ⟨"man colour holes left deed hours button on by does never until thread after friend wear day storm draw or and not ", ?_⟩, ⟨";()<>=+-*/%", ?_⟩, ⟨fun i hi => ?_, fun i j hi hj he => ?_⟩, ?_, ?_⟩
  · show vk_R RX7 70 "man colour holes left deed hours button on by does never until thread after friend wear day storm draw or and not " (z (1000 + 0)) s
    rw [z1 0 (by decide)]; exact r0
  · show vk_R RX7 60 ";()<>=+-*/%" (z (1000 + 1)) s
    rw [z1 1 (by decide)]; exact r1
  · have h1 := hS.1 i hi
    rw [← z1 i hi, ← z2 i hi] at h1
    exact h1
  · exact hS.2 i j hi hj ((z1 i hi).symm.trans (Eq.trans he (z1 j hj)))
  · exact va_Zof (hts _ (tq_3 (List.mem_of_getElem? (i := 64) rfl))) (hts _ (tq_1 (List.mem_of_getElem? (i := 16) rfl))) (va_eqt (hs _ (by decide +kernel))) hA
  · exact va_Zqof (hts _ (tq_3 (List.mem_of_getElem? (i := 80) rfl))) (hts _ (tq_1 (List.mem_of_getElem? (i := 18) rfl))) (hs _ (by decide +kernel)) hA
theorem n_goodT {Y' : xY} {n : Nat} (hM : x_M Y' n) : GoodIn x_TT (x_wsY Y') := by
  intro w h
  rcases List.mem_cons.mp h with h | h
  · rw [h]; exact ⟨hM.1, x_good hM.1⟩
  · exact ⟨h, x_good h⟩
theorem arr_known {ty : FieldType} {a : Array Value} {s : State} (h : (Cond.arrayClass ty).before a s = true) (hq : ∀ c, va_RA s c ty = (s.vm.findClass ("[" ++ ty.toString) = some c)) : ∃ cA, ArrOfT s cA ty ∧ va_RA s cA ty := by
  obtain ⟨c, k, comp, h1, h2, h3⟩ := Cond.arrayClass_spec h
  exact ⟨c, fun n z => ⟨fun k h => (by cases h), k, h2, comp, h3⟩, by rw [hq]; exact h1⟩
theorem P_left {D : va_G} {w1 w2 : va_W} {H : Heap} (h : va_P D vwCl (w1 ++ w2) H) : va_P D vwCl w1 H := fun k q hk => h k q (by rw [List.getElem?_append_left (List.getElem?_eq_some_iff.mp hk).1]; exact hk)
theorem P_right {D : va_G} {w1 w2 : va_W} {H : Heap} (h : va_P D vwCl (w1 ++ w2) H) : va_P D vwCl w2 H := fun k q hk => h (w1.length + k) q (by rw [List.getElem?_append_right (by omega), Nat.add_sub_cancel_left]; exact hk)
theorem D_cell {G : xG} {S : xSt} {q : Nat} (h : x_A G q) : ∃ (k : Nat) (e : va_E), (x_ws G S)[k]? = some (q, e) := by
  obtain ⟨k, hk, rfl⟩ := h
  exact ⟨k, _, x_ws_get (List.getElem?_eq_getElem hk)⟩
theorem D_left {A : Nat → Prop} {w1 w2 : va_W} (h : va_D A (w1 ++ w2)) : va_D A w1 := ⟨fun i j p q hp hq he => h.1 i j p q (by rw [List.getElem?_append_left (List.getElem?_eq_some_iff.mp hp).1]; exact hp) (by rw [List.getElem?_append_left (List.getElem?_eq_some_iff.mp hq).1]; exact hq) he, fun k q hk => h.2 k q (by rw [List.getElem?_append_left (List.getElem?_eq_some_iff.mp hk).1]; exact hk)⟩
theorem D_right {A : Nat → Prop} {w1 w2 : va_W} (h : va_D A (w1 ++ w2)) : va_D A w2 := ⟨fun i j p q hp hq he => by
  have := h.1 (w1.length + i) (w1.length + j) p q (by rw [List.getElem?_append_right (by omega), Nat.add_sub_cancel_left]; exact hp) (by rw [List.getElem?_append_right (by omega), Nat.add_sub_cancel_left]; exact hq) he
  omega, fun k q hk => h.2 (w1.length + k) q (by rw [List.getElem?_append_right (by omega), Nat.add_sub_cancel_left]; exact hk)⟩
theorem D_apart {A : Nat → Prop} {w1 w2 : va_W} (h : va_D A (w1 ++ w2)) {i j q : Nat} {e1 e2 : va_E} (h1 : w1[i]? = some (q, e1)) (h2 : w2[j]? = some (q, e2)) : False := by
  have a1 := (List.getElem?_eq_some_iff.mp h1).1
  have := h.1 i (w1.length + j) (q, e1) (q, e2) (by rw [List.getElem?_append_left a1]; exact h1) (by rw [List.getElem?_append_right (by omega), Nat.add_sub_cancel_left]; exact h2) rfl
  omega
theorem D_inj {A : Nat → Prop} {G : xG} {S : xSt} (hD : va_D A (x_ws G S)) : ∀ i j, i < G.2.2.2.2.1.length → j < G.2.2.2.2.1.length → x_ad G i = x_ad G j → i = j := fun i j hi hj he => hD.1 i j (x_ad G i, x_cell G.2.2.1 (x_ad G) S i G.2.2.2.2.1[i]) (x_ad G j, x_cell G.2.2.1 (x_ad G) S j G.2.2.2.2.1[j]) (x_ws_get (List.getElem?_eq_getElem hi)) (x_ws_get (List.getElem?_eq_getElem hj)) he
theorem D_in {A : Nat → Prop} {G : xG} {S : xSt} (hD : va_D A (x_ws G S)) : ∀ q, x_A G q → A q := fun q h => by
  obtain ⟨k, e, h⟩ := D_cell (S := S) h
  exact hD.2 k (q, e) h
set_option maxRecDepth 100000 in
set_option maxHeartbeats 4000000 in
theorem whole_start {p : Program} {e : Env} {s : State} {m : MethodId} {below : List Frame} {meth : Method} {c : Code} (l : Launch) {b L : Nat} {xs : Nat → Int32} (hL : L ≤ 3072) (C0 : lw_At p s m meth c b L xs) : W p l e room_1 s m #[Value.ref b] below meth c s.heap [] 0 0 (lw_Z below #[Value.ref b] s) (entryFrame m ([Value.ref b] : List Value).toArray 4) := by
  obtain ⟨hx, hb, hr, hml, hown, hts, hX, hbl, hlocks, hgv⟩ := id C0
  have htt : ∀ w ∈ x_TT, w.before #[Value.ref b] s = true := fun w h => hts w (List.mem_filter.mp h).1
  have hA : ∀ q : Nat, s.heap.size ≤ q → (fun q : Nat => s.heap.size ≤ q) q := fun _ h => h
  obtain ⟨z, hzs⟩ := zs_start hts hgv
  have hnz : nZ s := ⟨va_Nw.of rfl (hts _ (tq_1 (List.mem_of_getElem? (i := 38) rfl))), va_Nw.of rfl (hts _ (tq_1 (List.mem_of_getElem? (i := 183) rfl))), va_Nw.of rfl (hts _ (tq_1 (List.mem_of_getElem? (i := 189) rfl)))⟩
  obtain ⟨c0, i0, k0⟩ := u_known htt xc_0.2.1 (htt _ wn_X0)
  obtain ⟨c1, i1, k1⟩ := u_known htt xc_1.2.1 (htt _ wn_X1)
  obtain ⟨c2, i2, k2⟩ := u_known htt xc_2.2.1 (htt _ wn_X2)
  obtain ⟨c3, i3, k3⟩ := u_known htt xc_3.2.1 (htt _ wn_X3)
  obtain ⟨c4, i4, k4⟩ := u_known htt xc_4.2.1 (htt _ wn_X4)
  obtain ⟨c5, i5, k5⟩ := u_known htt xc_5.2.1 (htt _ wn_X5)
  obtain ⟨c6, i6, k6⟩ := u_known htt xc_6.2.1 (htt _ wn_X6)
  obtain ⟨c7, i7, k7⟩ := u_known htt xc_7.2.1 (htt _ wn_X7)
  obtain ⟨c8, i8, k8⟩ := u_known htt xc_8.2.1 (htt _ wn_X8)
  obtain ⟨c9, i9, k9⟩ := u_known htt xc_9.2.1 (htt _ wn_X9)
  obtain ⟨c10, i10, k10⟩ := u_known htt xc_10.2.1 (htt _ wn_X10)
  obtain ⟨c11, i11, k11⟩ := u_known htt xc_11.2.1 (htt _ wn_X11)
  obtain ⟨c12, i12, k12⟩ := u_known htt xc_12.2.1 (htt _ wn_X12)
  obtain ⟨dC, dI, hKc⟩ : ∃ (dC : Nat → ClassId) (dI : Nat → Nat → Nat), ∀ (k : Nat) (q : vw_C), vwCl[k]? = some q → u_Kn s q.1 q.2.1 q.2.2 (dC k) (dI k) := by
    refine ⟨fun k => [c0, c1, c2, c3, c4, c5, c6, c7, c8, c9, c10, c11, c12].getD k c0, fun k => [i0, i1, i2, i3, i4, i5, i6, i7, i8, i9, i10, i11, i12].getD k i0, ?_⟩
    intro k q hq
    match k, hq with
    | 0, hq => cases hq; exact k0
    | 1, hq => cases hq; exact k1
    | 2, hq => cases hq; exact k2
    | 3, hq => cases hq; exact k3
    | 4, hq => cases hq; exact k4
    | 5, hq => cases hq; exact k5
    | 6, hq => cases hq; exact k6
    | 7, hq => cases hq; exact k7
    | 8, hq => cases hq; exact k8
    | 9, hq => cases hq; exact k9
    | 10, hq => cases hq; exact k10
    | 11, hq => cases hq; exact k11
    | 12, hq => cases hq; exact k12
    | k + 13, hq => exact absurd hq (by simp [vwCl])
  obtain ⟨t0, u0, v0⟩ := arr_known (htt _ wa_int) (fun _ => rfl)
  obtain ⟨t1, u1, v1⟩ := arr_known (htt _ wa_byte) (fun _ => rfl)
  obtain ⟨t2, u2, v2⟩ := arr_known (htt _ wa_boolean) (fun _ => rfl)
  obtain ⟨t3, u3, v3⟩ := arr_known (htt _ wa_long) (fun _ => rfl)
  obtain ⟨ta, e0, e1, e2, e3⟩ : ∃ ta : Nat → ClassId, ta 0 = t0 ∧ ta 1 = t1 ∧ ta 2 = t2 ∧ ta 3 = t3 := ⟨fun k => [t0, t1, t2, t3].getD k t0, rfl, rfl, rfl, rfl⟩
  subst e0; subst e1; subst e2; subst e3
  have hK : va_K (dC, dI) vwCl (n_tys (l, (dC, dI), ta)) s := by
    refine ⟨hKc, fun k q h => ?_⟩
    match k, h with
    | 0, h => cases h; exact ⟨u0, v0⟩
    | 1, h => cases h; exact ⟨u1, v1⟩
    | 2, h => cases h; exact ⟨u2, v2⟩
    | 3, h => cases h; exact ⟨u3, v3⟩
    | k + 4, h => exact absurd h (by simp)
  have hS : va_S (fun q : Nat => s.heap.size ≤ q) s.heap s.heap [] := va_S.rf
  have hP : va_P (dC, dI) vwCl [] s.heap := fun k q h => by simp at h
  have hD : va_D (fun q : Nat => s.heap.size ≤ q) [] := ⟨fun i j p q h => by simp at h, fun k q h => by simp at h⟩
  have hl := lv_entry ([.ref b]) (n := 4) (Nat.le_of_ble_eq_true rfl)
  rw [lg_entry_eq]
  generalize (lg_sl ([.ref b]) ++ List.replicate (4 - (lg_sl ([.ref b])).length) Slot.unset).toArray = ls at hl ⊢
  have hl : lv_has ls 4 [(0, .ref b)] := hl
  refine va_new (Ts := x_TT) (ci := 11) (fs := [.null, .int 0, .null, .null, .null, .null, .null, .null, .null, .null, .null, .int 0, .int 0, .int 0]) (C := RX11) (T := TX11) (N := 14) hx hb htt xc_11.2.1 tyX11 xc_11.2.2.1 hown (htt _ wl_L_7) (htt _ wn_X11) (htt _ wi_X11) hK hP hD hS hA rfl df_X11 (Nat.le_of_ble_eq_true rfl) (Nat.le_of_ble_eq_true rfl) (x_at tdL_s 0 rfl) (fun q0 H hP hD hS => ?_)
  refine lv_dup hx hb (x_at tdL_s 1 rfl) rfl ?_
  have hq0 : s.heap.size ≤ q0 := hD.2 0 _ rfl
  refine n_callK (g := (l, (dC, dI), ta)) (A := fun q : Nat => s.heap.size ≤ q) (ws' := []) (va_runI (g := F0 m 4 ls [.ref q0, .ref q0]) (As := []) (rest := [.ref q0]) ⟨hx, hb, hml, hown, htt⟩ (n_X11 (l, (dC, dI), ta) z q0 H.size) (cwI (bytes := cX11_init) (maxL := 1) (ws' := x_TT) 0 htt (n_goodT mi_X11_init) rfl rfl rfl (htt _ wi_X11) (htt _ wm_L_9) (htt _ wv_X11_init) rfl ⟨nc_X11.1, nc_X11.2, mi_X11_init.2.2.2.2.2⟩ ⟨(Nat.le_of_ble_eq_true rfl), (Nat.le_of_ble_eq_true rfl)⟩) ⟨n_blind (g := (l, (dC, dI), ta)) (fun _ _ h hv hh => ⟨nzs _ _ h.1 hv hh, h.2.same hv hh⟩), n_pre (g := (l, (dC, dI), ta)) (ws' := []) hK hP (fun U hU hW => ⟨nzw s U hnz hW, (hzs.warm hW (hS.F hU)).narrow (fun q h => ?_)⟩)⟩ rfl rfl hl.1 rfl (lv_room (Nat.le_of_ble_eq_true rfl)) (x_at tdL_s 2 rfl) ⟨(Nat.le_of_ble_eq_true rfl), (Nat.le_of_ble_eq_true rfl)⟩) hP hD hS hA (fun w H1 locs1 hw hP1 hD1 hS1 => ?_)
  · rcases h with ⟨k, e', h⟩ | h
    · rw [(n_one h).1]; exact hq0
    · exact Nat.le_trans hS.1 h
  obtain ⟨lc, S1, hlen, h0, rfl, hRel⟩ := hw
  refine lv_astore_n (lv' := [(1, .ref q0), (0, .ref b)]) hx hb (x_at tdL_s 3 rfl) rfl hl (by decide) rfl (fun ls hl => ?_)
  refine va_new (Ts := x_TT) (ci := 12) (fs := [.null, .int 0, .int 0, .int 0, .int 0, .int 0, .int 0, .int 0, .int 0, .long 0, .null, .null, .null, .null, .null, .null, .null, .int 0, .int 0, .int 0, .int 0, .int 0, .int 0, .int 0, .null, .null, .null, .null, .null, .null, .null, .null, .null, .null, .null, .null, .null, .null, .null, .null, .null, .null, .null, .null, .null, .null, .null, .null, .null, .int 0, .int 0, .int 0, .int 0, .int 0, .int 0, .int 0, .int 0, .int 0, .int 0, .int 0, .int 0, .int 0, .int 0, .int 0, .int 0, .int 0, .int 0, .null, .null, .int 0, .int 0, .null, .null, .int 0, .int 0, .null, .null, .null, .null, .int 0, .int 0, .int 0, .int 0, .int 0, .null, .int 0, .null, .null, .null, .null, .null, .null, .null, .int 0, .int 0, .null, .null]) (C := RX12) (T := TX12) (N := 97) hx hb htt xc_12.2.1 tyX12 xc_12.2.2.1 hown (htt _ wl_L_10) (htt _ wn_X12) (htt _ wi_X12) hK hP1 hD1 hS1 hA rfl df_X12 (Nat.le_of_ble_eq_true rfl) (Nat.le_of_ble_eq_true rfl) (x_at tdL_s 4 rfl) (fun q2 H2 hP2 hD2 hS2 => ?_)
  refine lv_dup hx hb (x_at tdL_s 5 rfl) rfl ?_
  refine n_callK (g := (l, (dC, dI), ta)) (A := fun q : Nat => s.heap.size ≤ q) (va_runI (g := F0 m 12 ls [.ref q2, .ref q2]) (As := []) (rest := [.ref q2]) ⟨hx, hb, hml, hown, htt⟩ (n_X12 (l, (dC, dI), ta) q2 H2.size) (cwI (bytes := cX12_init) (maxL := 1) (ws' := x_TT) 0 htt (n_goodT mi_X12_init) rfl rfl rfl (htt _ wi_X12) (htt _ wm_L_12) (htt _ wv_X12_init) rfl ⟨nc_X12.1, nc_X12.2, mi_X12_init.2.2.2.2.2⟩ ⟨(Nat.le_of_ble_eq_true rfl), (Nat.le_of_ble_eq_true rfl)⟩) ⟨n_blind (g := (l, (dC, dI), ta)) nzs, n_pre (g := (l, (dC, dI), ta)) hK hP2 (fun U hU hW => nzw s U hnz hW)⟩ rfl rfl hl.1 rfl (lv_room (Nat.le_of_ble_eq_true rfl)) (x_at tdL_s 6 rfl) ⟨(Nat.le_of_ble_eq_true rfl), (Nat.le_of_ble_eq_true rfl)⟩) hP2 hD2 hS2 hA (fun w H3 locs3 hw hP3 hD3 hS3 => ?_)
  obtain ⟨lm, hlenM, h1, rfl⟩ := hw
  refine lv_astore_n (lv' := [(2, .ref q2), (1, .ref q0), (0, .ref b)]) hx hb (x_at tdL_s 7 rfl) rfl hl (by decide) rfl (fun ls hl => ?_)
  refine lv_iconst (v := 0) hx hb (x_at tdL_s 8 rfl) (by decide) ?_
  refine lv_istore_n (lv' := [(3, .int 0), (2, .ref q2), (1, .ref q0), (0, .ref b)]) hx hb (x_at tdL_s 9 rfl) rfl hl (by decide) rfl (fun ls hl => ?_)
  have ea : adL lc z 0 = q0 := by unfold adL; rw [h0]; rfl
  have eb : adL lm (fun _ => 0) 0 = q2 := by unfold adL; rw [h1]; rfl
  have hDC := D_right (w1 := []) (D_left hD3)
  have hDM := D_right hD3
  have hzC : zsZ (fun q : Nat => s.heap.size ≤ q) (adL lc z) s := hzs.ad (adL_far (by omega))
  refine law_loop (v := ((p, e, s, m, below, meth, c), (l, (dC, dI), ta, adL lc z, adL lm (fun _ => 0)), (b, L, xs), _, _)) hL (L + 1) 0 S1 S0M hRel (Nat.zero_le _) (by show L < 0 + (L + 1); omega) ⟨C0, hK, x_okC (D_inj hDC), ⟨D_inj hDM, fun _ _ _ _ _ => trivial, fun _ _ _ _ _ => trivial⟩, hzC, D_in hDC, D_in hDM, fun q a1 a2 => ?_, hL, (Nat.le_of_ble_eq_true rfl), (Nat.le_of_ble_eq_true rfl)⟩ H3 locs3 ls (P_right (w1 := []) (P_left hP3)) (P_right hP3) hS3 ?_
  · obtain ⟨k1, e1, a1⟩ := D_cell (S := S1) a1
    obtain ⟨k2, e2, a2⟩ := D_cell (S := S0M) a2
    exact D_apart hD3 a1 a2
  · show lv_has ls 4 [(0, .ref b), (1, .ref (adL lc z 0)), (2, .ref (adL lm (fun _ => 0) 0)), (3, .int (nI 0))]
    rw [ea, eb]
    exact lv_sub hl [3, 2, 1, 0] rfl
end
