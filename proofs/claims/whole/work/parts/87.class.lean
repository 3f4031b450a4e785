section
def S0C : xSt := (fun c => match c with
  | 0 => (fun j => match j with
    | 13 => (-1)
    | _ => 0)
  | 2 => (fun j => match j with
    | 17 => 8
    | _ => 0)
  | 14 => wR
  | 21 => (fun j => match j with
    | 17 => 8
    | _ => 0)
  | 33 => wR
  | _ => fun _ => 0, fun _ _ => 0, fun c => match c with
  | 19 => 20
  | _ => 0)
/-- the class's constructor: the String constants are outside what it makes -/
def ENC (g : nG) (z : Nat → Nat) (d mc ms : Nat) (Y : xY) (as : List Value) (b : Nat) (e0 : va_E) (K : va_W → Prop) : Prop :=
  ∀ sz : Nat, Met g.1 Y.1 (x_wsY Y) (n_room d mc ms) (va_Pc as (fun U => U.heap.size = sz ∧ va_K g.2.1 vwCl (n_tys g) U ∧ va_P g.2.1 vwCl [(b, e0)] U.heap ∧ (nZ U ∧ zsZ (va_A [(b, e0)] sz) z U))) (n_Q g (va_A [(b, e0)] sz) K) mc ms (va_A [(b, e0)] sz)
theorem n_enterC {g : nG} {z : Nat → Nat} {d mc ms : Nat} {Y : xY} {as : List Value} {b : Nat} {e0 : va_E} {K : va_W → Prop} (hy : plainName Y.1.cls = true) (hi : Y.1.name = "<init>") (hn : (lg_sl as).length ≤ Y.2.2.1) (h : ∀ sz, XN g (va_A [(b, e0)] sz) (fun U => nZ U ∧ zsZ (va_A [(b, e0)] sz) z U) d mc ms Y 0 (lv_args 0 as) [] 0 0 [(b, e0)] K) : ENC g z d mc ms Y as b e0 K := by
  intro sz
  refine Met.ofW (cc := Y.2.1) (maxL := Y.2.2.1) (ret := Y.2.2.2) hy rfl ?_
  intro p e s m args below meth c s₁ B hml hv
  obtain ⟨rfl, hsz, hK, hP, hZ⟩ := hv
  rw [lg_entry_eq]
  subst hsz
  have hD : va_D (va_A [(b, e0)] s.heap.size) [(b, e0)] := by
    refine va_D.self (A := fun _ => True) ⟨fun i j p q h1 h2 _ => ?_, fun _ _ _ => trivial⟩
    have a1 := (List.getElem?_eq_some_iff.mp h1).1
    have a2 := (List.getElem?_eq_some_iff.mp h2).1
    simp at a1 a2
    omega
  exact h s.heap.size p e s m _ below meth c s.heap [] _ ⟨B.exec, B.bytes, B.returns, hml, findClass_of_methodNamed B.named, atoms_spec (ws := x_wsY Y) B.pre, B.notSynchronized⟩ ((name_of_methodNamed B.named B.method).1.trans hi) hK hZ hP hD va_S.rf (fun _ q => Or.inr q) (lv_entry as hn)
theorem zsZ.ad {A : Nat → Prop} {a1 a2 : Nat → Nat} {U : State} (h : zsZ A a1 U) (he : ∀ k, 1000 ≤ k → a2 k = a1 k) : zsZ A a2 U := by
  obtain ⟨h0, h1, h2, h3, h4⟩ := h
  have e1 : (fun i => a2 (1000 + i)) = fun i => a1 (1000 + i) := funext (fun i => he _ (by omega))
  have e2 : (fun i => a2 (1002 + i)) = fun i => a1 (1002 + i) := funext (fun i => he _ (by omega))
  refine ⟨?_, ?_, ?_, h3, h4⟩
  · rw [he 1000 (by omega)]; exact h0
  · rw [he 1001 (by omega)]; exact h1
  · rw [e1, e2]; exact h2
theorem adL_far {l : List Nat} {z : Nat → Nat} (hl : l.length ≤ 1000) : ∀ k, 1000 ≤ k → adL l z k = z k := fun k hk => by
  unfold adL
  rw [List.getElem?_eq_none (by omega)]
  rfl
theorem relInit {S1 : xSt} (a2 : (∀ c, c ≠ 42 → S1.1 c = S0C.1 c) ∧ (∀ b, b < 10 → S1.1 42 b = 0 ∧ S1.1 42 (10 + b) = S0C.1 12 b) ∧ S1.1 42 20 = 0 ∧ S1.1 42 21 = S0C.1 2 19 ∧ S1.1 42 22 = 0) : Rel (x_putA (x_putI (x_putI S1 43 4 0) 43 5 0) 44 (va_cpy (S1.1 42) (S1.1 44) 0 0 23)) S0M := by
  obtain ⟨b1, b2, b3, b4, b5⟩ := a2
  generalize hS2 : x_putA (x_putI (x_putI S1 43 4 0) 43 5 0) 44 (va_cpy (S1.1 42) (S1.1 44) 0 0 23) = S2
  have f : ∀ c, c ≠ 42 → c ≠ 43 → c ≠ 44 → S2.1 c = S0C.1 c := by
    intro c h1 h2 h3
    rw [← hS2]
    show (if c = 44 then va_cpy (S1.1 42) (S1.1 44) 0 0 23 else (x_putI (x_putI S1 43 4 0) 43 5 0).1 c) = S0C.1 c
    rw [if_neg h3, gI_ne _ _ _ h2, gI_ne _ _ _ h2]
    exact b1 c h1
  have f42 : S2.1 42 = S1.1 42 := by rw [← hS2]; rfl
  have f433 : S2.1 43 3 = 0 := by
    have h1 : S2.1 43 3 = S1.1 43 3 := by rw [← hS2]; rfl
    rw [h1, b1 43 (by decide)]
    rfl
  have f434 : S2.1 43 4 = 0 := by rw [← hS2]; rfl
  have f435 : S2.1 43 5 = 0 := by rw [← hS2]; rfl
  have f44 : ∀ k, k < 23 → S2.1 44 k = S1.1 42 k := by
    intro k hk
    have h1 : S2.1 44 k = va_cpy (S1.1 42) (S1.1 44) 0 0 23 k := by rw [← hS2]; rfl
    rw [h1]
    show (if 0 ≤ k ∧ k < 0 + 23 then S1.1 42 (0 + (k - 0)) else S1.1 44 k) = S1.1 42 k
    rw [if_pos ⟨Nat.zero_le _, by omega⟩, Nat.zero_add, Nat.sub_zero]
  clear hS2
  have f' : ∀ c, c < 42 ∨ 44 < c → S2.1 c = S0C.1 c := fun c h => f c (by omega) (by omega) (by omega)
  have hw : ∀ i j, i < 6 → j < 6 → S2.1 14 (6 * i + j) = -100 := by
    intro i j hi hj
    rw [f' 14 (by omega)]
    exact if_pos (by omega)
  refine ⟨0, 0, 0, 0, 8, 0, ?_, ?_, ?_, ?_, ?_, ?_, ?_, ?_, ?_, ?_⟩
  · rw [f' 2 (by omega)]
    exact ⟨⟨rfl, by omega⟩, ⟨rfl, by omega⟩, ⟨rfl, by omega⟩, ⟨rfl, by omega⟩, ⟨rfl, by omega, by omega⟩, ⟨rfl, by omega⟩, fun m h => absurd h (by omega), fun m h => absurd h (by omega), fun m h => absurd h (by omega), fun i j hi hj => ⟨Or.inl (hw i j hi hj), (hw i j hi hj).trans (hw j i hj hi).symm⟩, fun i hi => hw i i hi hi⟩
  · rw [f' 2 (by omega)]
    exact ⟨⟨rfl, rfl, rfl, rfl, rfl, rfl⟩, fun m h => absurd h (by omega), fun m h => absurd h (by omega), fun m h => absurd h (by omega), fun i j h => absurd h (by omega)⟩
  · rw [f' 15 (by omega)]
    exact ⟨0, by omega, rfl, rfl, rfl, rfl, fun k h => absurd h (by omega)⟩
  · rw [f42]
    refine ⟨fun b h => absurd h (by omega), ?_, ?_, ?_, ⟨0, by omega, b3⟩, ⟨0, by omega, b5⟩⟩
    · rw [b3]; rfl
    · rw [b4]; rfl
    · rw [b5]; rfl
  · refine ⟨0, 0, by omega, by omega, f434, f435, rfl, rfl, fun r h => absurd h (by omega), fun r h1 h2 => absurd h2 (by omega), fun k hk => ?_⟩
    rw [f42, show 23 * 0 + k = k by omega]
    exact f44 k hk
  · refine ⟨0, by omega, f433, fun x hx => ⟨?_, fun h => ?_⟩⟩
    · rw [Nat.zero_testBit]; rfl
    · rw [Nat.zero_testBit] at h; cases h
  · rw [f' 57 (by omega)]
    exact ⟨0, 0, by omega, by omega, rfl, rfl, rfl, rfl, fun j h => absurd h (by omega)⟩
  · rw [f' 0 (by omega)]
    exact ⟨0, by omega, rfl, rfl, fun j h => absurd h (by omega)⟩
  · rw [f' 0 (by omega)]
    exact ⟨rfl, rfl⟩
  · rw [f' 0 (by omega)]
    exact ⟨0, by omega, rfl, rfl, fun j h => absurd h (by omega)⟩
set_option maxRecDepth 100000 in
set_option maxHeartbeats 4000000 in
theorem n_X11 (g : nG) (z : Nat → Nat) (b : Nat) : ENC g z 10 63 5030 mYX11_init [.ref b] b (.inr (11, [.null, .int 0, .null, .null, .null, .null, .null, .null, .null, .null, .null, .int 0, .int 0, .int 0])) (fun w => ∃ (l : List Nat) (S : xSt), l.length = 64 ∧ l[0]? = some b ∧ w = x_ws (gC (g.1, g.2.1, g.2.2, adL l z, fun _ => True)) S ∧ Rel S S0M) := by
  obtain ⟨S1, a1, a2⟩ := sewC (S := S0C)
  refine n_enterC pn_X11 rfl (Nat.le_of_ble_eq_true rfl) (fun sz => ?_)
  refine n_aload_n (x_at tdX11_init 0 rfl) rfl rfl ?_
  refine n_obj (x_at tdX11_init 1 rfl) wm_X11_1 wv_obj wc_obj (Nat.le_of_ble_eq_true rfl) ?_
  refine n_aload_n (x_at tdX11_init 2 rfl) rfl rfl ?_
  refine n_sipush (x_at tdX11_init 3 rfl) (v := 1600) (by decide) ?_
  refine n_newiH (t := 1) (n := 1600) (x_at tdX11_init 4 rfl) rfl wa_byte rfl (fun _ _ => rfl) rfl (Nat.le_of_ble_eq_true rfl) (by decide) (by decide) (Nat.le_of_ble_eq_true rfl) (Nat.le_of_ble_eq_true rfl) (fun q1 => ?_)
  refine n_putF (k := 0) (fs' := [.ref q1, .int 0, .null, .null, .null, .null, .null, .null, .null, .null, .null, .int 0, .int 0, .int 0]) xc_11 (x_at tdX11_init 5 rfl) wf_X11_9 (by decide) rfl rfl rfl rfl (Nat.le_of_ble_eq_true rfl) rfl ?_
  refine n_aload_n (x_at tdX11_init 6 rfl) rfl rfl ?_
  refine n_newH (fs := [.int 0, .null, .null, .null, .int 0, .null, .int 0, .null, .null, .null, .null, .null, .null, .null, .int 0, .null, .null, .int 0, .int 0, .int 0]) xc_5 (x_at tdX11_init 7 rfl) wl_X11_13 wn_X5 wi_X5 df_X5 (Nat.le_of_ble_eq_true rfl) (Nat.le_of_ble_eq_true rfl) (fun q2 => ?_)
  refine n_dup (x_at tdX11_init 8 rfl) rfl ?_
  refine n_initH (as := []) (rs := [.ref q2, .ref b]) mi_X5_init wv_X5_init rfl rfl (x_at tdX11_init 9 rfl) wm_X11_15 rfl (Nat.le_of_ble_eq_true rfl) rfl (Nat.le_of_ble_eq_true rfl) (Nat.le_of_ble_eq_true rfl) (Nat.le_of_ble_eq_true rfl) (fun s U hz hW => nzw s U hz.1 hW) nzs (n_X5 g q2) (fun w2 hw2 => ?_)
  obtain ⟨s2, rfl⟩ := hw2
  refine n_putF (k := 2) (fs' := [.ref q1, .int 0, .ref q2, .null, .null, .null, .null, .null, .null, .null, .null, .int 0, .int 0, .int 0]) xc_11 (x_at tdX11_init 10 rfl) wf_X11_16 (by decide) rfl rfl rfl rfl (Nat.le_of_ble_eq_true rfl) rfl ?_
  refine n_aload_n (x_at tdX11_init 11 rfl) rfl rfl ?_
  refine n_newH (fs := [.null, .null, .null, .null, .null, .null, .int 0]) xc_4 (x_at tdX11_init 12 rfl) wl_X11_20 wn_X4 wi_X4 df_X4 (Nat.le_of_ble_eq_true rfl) (Nat.le_of_ble_eq_true rfl) (fun q3 => ?_)
  refine n_dup (x_at tdX11_init 13 rfl) rfl ?_
  refine n_initNH (as := []) (rs := [.ref q3, .ref b]) mi_X4_init wv_X4_init rfl rfl (x_at tdX11_init 14 rfl) (fun _ hz => nz_X11_22 hz.1) rfl (Nat.le_of_ble_eq_true rfl) rfl (Nat.le_of_ble_eq_true rfl) (Nat.le_of_ble_eq_true rfl) (Nat.le_of_ble_eq_true rfl) (fun s U hz hW => nzw s U hz.1 hW) nzs (n_X4 g q3) (fun w3 hw3 => ?_)
  obtain ⟨s3, rfl⟩ := hw3
  refine n_putF (k := 3) (fs' := [.ref q1, .int 0, .ref q2, .ref q3, .null, .null, .null, .null, .null, .null, .null, .int 0, .int 0, .int 0]) xc_11 (x_at tdX11_init 15 rfl) wf_X11_23 (by decide) rfl rfl rfl rfl (Nat.le_of_ble_eq_true rfl) rfl ?_
  refine n_aload_n (x_at tdX11_init 16 rfl) rfl rfl ?_
  refine n_newH (fs := [.null, .null]) xc_0 (x_at tdX11_init 17 rfl) wl_X11_27 wn_X0 wi_X0 df_X0 (Nat.le_of_ble_eq_true rfl) (Nat.le_of_ble_eq_true rfl) (fun q4 => ?_)
  refine n_dup (x_at tdX11_init 18 rfl) rfl ?_
  refine n_aload_n (x_at tdX11_init 19 rfl) rfl rfl ?_
  refine n_get (i := 0) (k := 2) xc_11 (x_at tdX11_init 20 rfl) wf_X11_16 (by decide) rfl rfl ?_
  refine n_initH (as := [.ref q2]) (rs := [.ref q4, .ref b]) mi_X0_init wv_X0_init rfl rfl (x_at tdX11_init 21 rfl) wm_X11_29 rfl (Nat.le_of_ble_eq_true rfl) rfl (Nat.le_of_ble_eq_true rfl) (Nat.le_of_ble_eq_true rfl) (Nat.le_of_ble_eq_true rfl) (fun s U hz hW => nzw s U hz.1 hW) nzs (n_X0 g q4 q2) (fun w4 hw4 => ?_)
  obtain ⟨s4, rfl⟩ := hw4
  refine n_putF (k := 4) (fs' := [.ref q1, .int 0, .ref q2, .ref q3, .ref q4, .null, .null, .null, .null, .null, .null, .int 0, .int 0, .int 0]) xc_11 (x_at tdX11_init 22 rfl) wf_X11_32 (by decide) rfl rfl rfl rfl (Nat.le_of_ble_eq_true rfl) rfl ?_
  refine n_aload_n (x_at tdX11_init 23 rfl) rfl rfl ?_
  refine n_newH (fs := [.null, .null, .null, .int 0, .int 0, .int 0]) xc_2 (x_at tdX11_init 24 rfl) wl_X11_36 wn_X2 wi_X2 df_X2 (Nat.le_of_ble_eq_true rfl) (Nat.le_of_ble_eq_true rfl) (fun q5 => ?_)
  refine n_dup (x_at tdX11_init 25 rfl) rfl ?_
  refine n_aload_n (x_at tdX11_init 26 rfl) rfl rfl ?_
  refine n_get (i := 0) (k := 4) xc_11 (x_at tdX11_init 27 rfl) wf_X11_32 (by decide) rfl rfl ?_
  refine n_initH (as := [.ref q4]) (rs := [.ref q5, .ref b]) mi_X2_init wv_X2_init rfl rfl (x_at tdX11_init 28 rfl) wm_X11_38 rfl (Nat.le_of_ble_eq_true rfl) rfl (Nat.le_of_ble_eq_true rfl) (Nat.le_of_ble_eq_true rfl) (Nat.le_of_ble_eq_true rfl) (fun s U hz hW => nzw s U hz.1 hW) nzs (n_X2 g q5 q4) (fun w5 hw5 => ?_)
  obtain ⟨s5, rfl⟩ := hw5
  refine n_putF (k := 5) (fs' := [.ref q1, .int 0, .ref q2, .ref q3, .ref q4, .ref q5, .null, .null, .null, .null, .null, .int 0, .int 0, .int 0]) xc_11 (x_at tdX11_init 29 rfl) wf_X11_41 (by decide) rfl rfl rfl rfl (Nat.le_of_ble_eq_true rfl) rfl ?_
  refine n_aload_n (x_at tdX11_init 30 rfl) rfl rfl ?_
  refine n_newH (fs := [.null, .null, .null, .int 0, .int 0, .null, .null, .null, .null, .int 0, .int 0, .int 0]) xc_3 (x_at tdX11_init 31 rfl) wl_X11_45 wn_X3 wi_X3 df_X3 (Nat.le_of_ble_eq_true rfl) (Nat.le_of_ble_eq_true rfl) (fun q6 => ?_)
  refine n_dup (x_at tdX11_init 32 rfl) rfl ?_
  refine n_aload_n (x_at tdX11_init 33 rfl) rfl rfl ?_
  refine n_get (i := 0) (k := 2) xc_11 (x_at tdX11_init 34 rfl) wf_X11_16 (by decide) rfl rfl ?_
  refine n_aload_n (x_at tdX11_init 35 rfl) rfl rfl ?_
  refine n_get (i := 0) (k := 4) xc_11 (x_at tdX11_init 36 rfl) wf_X11_32 (by decide) rfl rfl ?_
  refine n_initH (as := [.ref q2, .ref q4]) (rs := [.ref q6, .ref b]) mi_X3_init wv_X3_init rfl rfl (x_at tdX11_init 37 rfl) wm_X11_47 rfl (Nat.le_of_ble_eq_true rfl) rfl (Nat.le_of_ble_eq_true rfl) (Nat.le_of_ble_eq_true rfl) (Nat.le_of_ble_eq_true rfl) (fun s U hz hW => nzw s U hz.1 hW) nzs (n_X3 g q6 q2 q4) (fun w6 hw6 => ?_)
  obtain ⟨s6, rfl⟩ := hw6
  refine n_putF (k := 6) (fs' := [.ref q1, .int 0, .ref q2, .ref q3, .ref q4, .ref q5, .ref q6, .null, .null, .null, .null, .int 0, .int 0, .int 0]) xc_11 (x_at tdX11_init 38 rfl) wf_X11_50 (by decide) rfl rfl rfl rfl (Nat.le_of_ble_eq_true rfl) rfl ?_
  refine n_aload_n (x_at tdX11_init 39 rfl) rfl rfl ?_
  refine n_newH (fs := [.null, .null]) xc_6 (x_at tdX11_init 40 rfl) wl_X11_54 wn_X6 wi_X6 df_X6 (Nat.le_of_ble_eq_true rfl) (Nat.le_of_ble_eq_true rfl) (fun q7 => ?_)
  refine n_dup (x_at tdX11_init 41 rfl) rfl ?_
  refine n_aload_n (x_at tdX11_init 42 rfl) rfl rfl ?_
  refine n_get (i := 0) (k := 2) xc_11 (x_at tdX11_init 43 rfl) wf_X11_16 (by decide) rfl rfl ?_
  refine n_aload_n (x_at tdX11_init 44 rfl) rfl rfl ?_
  refine n_get (i := 0) (k := 4) xc_11 (x_at tdX11_init 45 rfl) wf_X11_32 (by decide) rfl rfl ?_
  refine n_initH (as := [.ref q2, .ref q4]) (rs := [.ref q7, .ref b]) mi_X6_init wv_X6_init rfl rfl (x_at tdX11_init 46 rfl) wm_X11_56 rfl (Nat.le_of_ble_eq_true rfl) rfl (Nat.le_of_ble_eq_true rfl) (Nat.le_of_ble_eq_true rfl) (Nat.le_of_ble_eq_true rfl) (fun s U hz hW => nzw s U hz.1 hW) nzs (n_X6 g q7 q2 q4) (fun w7 hw7 => ?_)
  obtain ⟨s7, rfl⟩ := hw7
  refine n_putF (k := 7) (fs' := [.ref q1, .int 0, .ref q2, .ref q3, .ref q4, .ref q5, .ref q6, .ref q7, .null, .null, .null, .int 0, .int 0, .int 0]) xc_11 (x_at tdX11_init 47 rfl) wf_X11_57 (by decide) rfl rfl rfl rfl (Nat.le_of_ble_eq_true rfl) rfl ?_
  refine n_aload_n (x_at tdX11_init 48 rfl) rfl rfl ?_
  refine n_newH (fs := [.null, .null, .null, .int 0, .null, .int 0, .int 0]) xc_8 (x_at tdX11_init 49 rfl) wl_X11_61 wn_X8 wi_X8 df_X8 (Nat.le_of_ble_eq_true rfl) (Nat.le_of_ble_eq_true rfl) (fun q8 => ?_)
  refine n_dup (x_at tdX11_init 50 rfl) rfl ?_
  refine n_aload_n (x_at tdX11_init 51 rfl) rfl rfl ?_
  refine n_get (i := 0) (k := 2) xc_11 (x_at tdX11_init 52 rfl) wf_X11_16 (by decide) rfl rfl ?_
  refine n_initH (as := [.ref q2]) (rs := [.ref q8, .ref b]) mi_X8_init wv_X8_init rfl rfl (x_at tdX11_init 53 rfl) wm_X11_63 rfl (Nat.le_of_ble_eq_true rfl) rfl (Nat.le_of_ble_eq_true rfl) (Nat.le_of_ble_eq_true rfl) (Nat.le_of_ble_eq_true rfl) (fun s U hz hW => nzw s U hz.1 hW) nzs (n_X8 g q8 q2) (fun w8 hw8 => ?_)
  obtain ⟨s8, rfl⟩ := hw8
  refine n_putF (k := 8) (fs' := [.ref q1, .int 0, .ref q2, .ref q3, .ref q4, .ref q5, .ref q6, .ref q7, .ref q8, .null, .null, .int 0, .int 0, .int 0]) xc_11 (x_at tdX11_init 54 rfl) wf_X11_64 (by decide) rfl rfl rfl rfl (Nat.le_of_ble_eq_true rfl) rfl ?_
  refine n_aload_n (x_at tdX11_init 55 rfl) rfl rfl ?_
  refine n_newH (fs := [.null, .null, .null, .null, .null, .null, .int 0, .int 0]) xc_9 (x_at tdX11_init 56 rfl) wl_X11_68 wn_X9 wi_X9 df_X9 (Nat.le_of_ble_eq_true rfl) (Nat.le_of_ble_eq_true rfl) (fun q9 => ?_)
  refine n_dup (x_at tdX11_init 57 rfl) rfl ?_
  refine n_aload_n (x_at tdX11_init 58 rfl) rfl rfl ?_
  refine n_get (i := 0) (k := 2) xc_11 (x_at tdX11_init 59 rfl) wf_X11_16 (by decide) rfl rfl ?_
  refine n_initH (as := [.ref q2]) (rs := [.ref q9, .ref b]) mi_X9_init wv_X9_init rfl rfl (x_at tdX11_init 60 rfl) wm_X11_70 rfl (Nat.le_of_ble_eq_true rfl) rfl (Nat.le_of_ble_eq_true rfl) (Nat.le_of_ble_eq_true rfl) (Nat.le_of_ble_eq_true rfl) (fun s U hz hW => nzw s U hz.1 hW) nzs (n_X9 g q9 q2) (fun w9 hw9 => ?_)
  obtain ⟨s9, rfl⟩ := hw9
  refine n_putF (k := 9) (fs' := [.ref q1, .int 0, .ref q2, .ref q3, .ref q4, .ref q5, .ref q6, .ref q7, .ref q8, .ref q9, .null, .int 0, .int 0, .int 0]) xc_11 (x_at tdX11_init 61 rfl) wf_X11_71 (by decide) rfl rfl rfl rfl (Nat.le_of_ble_eq_true rfl) rfl ?_
  refine n_aload_n (x_at tdX11_init 62 rfl) rfl rfl ?_
  refine n_bipush (x_at tdX11_init 63 rfl) (v := 10) (by decide) ?_
  refine n_newiH (t := 0) (n := 10) (x_at tdX11_init 64 rfl) rfl wa_int rfl (fun _ _ => rfl) rfl (Nat.le_of_ble_eq_true rfl) (by decide) (by decide) (Nat.le_of_ble_eq_true rfl) (Nat.le_of_ble_eq_true rfl) (fun q10 => ?_)
  refine n_putF (k := 10) (fs' := [.ref q1, .int 0, .ref q2, .ref q3, .ref q4, .ref q5, .ref q6, .ref q7, .ref q8, .ref q9, .ref q10, .int 0, .int 0, .int 0]) xc_11 (x_at tdX11_init 65 rfl) wf_X11_75 (by decide) rfl rfl rfl rfl (Nat.le_of_ble_eq_true rfl) rfl ?_
  refine n_aload_n (x_at tdX11_init 66 rfl) rfl rfl ?_
  refine n_iconst (x_at tdX11_init 67 rfl) (v := (-1)) (by decide) ?_
  refine n_put (k := 13) (fs' := [.ref q1, .int 0, .ref q2, .ref q3, .ref q4, .ref q5, .ref q6, .ref q7, .ref q8, .ref q9, .ref q10, .int 0, .int 0, .int (-1)]) xc_11 (x_at tdX11_init 68 rfl) wf_X11_79 (by decide) rfl rfl rfl (Nat.le_of_ble_eq_true rfl) rfl ?_
  refine n_aload_n (x_at tdX11_init 69 rfl) rfl rfl ?_
  refine n_get (i := 0) (k := 4) xc_11 (x_at tdX11_init 70 rfl) wf_X11_32 (by decide) rfl rfl ?_
  refine n_ws (w1 := x_ws (gC (g.1, g.2.1, g.2.2, adL [b, q1, q2, (s2 1), (s2 2), (s2 3), (s2 4), (s2 5), (s2 6), (s2 7), (s2 8), (s2 9), (s2 10), (s2 11), (s2 12), (s2 13), (s2 14), (s2 15), q3, (s3 1), (s3 2), (s3 3), (s3 4), (s3 5), (s3 6), (s3 7), (s3 8), (s3 9), (s3 10), (s3 11), (s3 12), (s3 13), (s3 14), (s3 15), (s3 16), (s3 17), (s3 18), (s3 19), (s3 20), (s3 21), (s3 22), q4, (s4 1), q5, (s5 1), (s5 2), q6, (s6 1), (s6 2), (s6 3), (s6 4), (s6 5), q7, q8, (s8 1), (s8 2), (s8 3), q9, (s9 1), (s9 2), (s9 3), (s9 4), (s9 5), q10] z, fun _ => True)) S0C) ?_ ?_
  · simp only [List.append_assoc, List.cons_append, List.nil_append, wf_X5, wf_X4, wf_X0, wf_X2, wf_X3, wf_X6, wf_X8, wf_X9]
    refine cons2 rfl ?_
    refine cons2 rfl ?_
    refine cons2 rfl ?_
    refine cons2 rfl ?_
    refine cons2 rfl ?_
    refine cons2 rfl ?_
    refine cons2 rfl ?_
    refine cons2 rfl ?_
    refine cons2 rfl ?_
    refine cons2 rfl ?_
    refine cons2 rfl ?_
    refine cons2 rfl ?_
    refine cons2 rfl ?_
    refine cons2 rfl ?_
    refine cons2 rfl ?_
    refine cons2 rfl ?_
    refine cons2 rfl ?_
    refine cons2 rfl ?_
    refine cons2 rfl ?_
    refine cons2 rfl ?_
    refine cons2 rfl ?_
    refine cons2 rfl ?_
    refine cons2 rfl ?_
    refine cons2 rfl ?_
    refine cons2 rfl ?_
    refine cons2 rfl ?_
    refine cons2 rfl ?_
    refine cons2 rfl ?_
    refine cons2 rfl ?_
    refine cons2 rfl ?_
    refine cons2 rfl ?_
    refine cons2 rfl ?_
    refine cons2 rfl ?_
    refine cons2 rfl ?_
    refine cons2 rfl ?_
    refine cons2 rfl ?_
    refine cons2 rfl ?_
    refine cons2 rfl ?_
    refine cons2 rfl ?_
    refine cons2 rfl ?_
    refine cons2 rfl ?_
    refine cons2 rfl ?_
    refine cons2 rfl ?_
    refine cons2 rfl ?_
    refine cons2 rfl ?_
    refine cons2 rfl ?_
    refine cons2 rfl ?_
    refine cons2 rfl ?_
    refine cons2 rfl ?_
    refine cons2 rfl ?_
    refine cons2 rfl ?_
    refine cons2 rfl ?_
    refine cons2 rfl ?_
    refine cons2 rfl ?_
    refine cons2 rfl ?_
    refine cons2 rfl ?_
    refine cons2 rfl ?_
    refine cons2 rfl ?_
    refine cons2 rfl ?_
    refine cons2 rfl ?_
    refine cons2 rfl ?_
    refine cons2 rfl ?_
    refine cons2 rfl ?_
    refine cons2 rfl ?_
    rfl
  refine n_callV (G := gC (g.1, g.2.1, g.2.2, adL [b, q1, q2, (s2 1), (s2 2), (s2 3), (s2 4), (s2 5), (s2 6), (s2 7), (s2 8), (s2 9), (s2 10), (s2 11), (s2 12), (s2 13), (s2 14), (s2 15), q3, (s3 1), (s3 2), (s3 3), (s3 4), (s3 5), (s3 6), (s3 7), (s3 8), (s3 9), (s3 10), (s3 11), (s3 12), (s3 13), (s3 14), (s3 15), (s3 16), (s3 17), (s3 18), (s3 19), (s3 20), (s3 21), (s3 22), q4, (s4 1), q5, (s5 1), (s5 2), q6, (s6 1), (s6 2), (s6 3), (s6 4), (s6 5), q7, q8, (s8 1), (s8 2), (s8 3), q9, (s9 1), (s9 2), (s9 3), (s9 4), (s9 5), q10] z, fun _ => True)) (S := S0C) (o := 41) (d' := 0) (as := []) (rest := []) (Kc := kV (fun S' => S' = S1)) mi_X0_sewAllAsTold vc_0 rfl (x_at tdX11_init 71 rfl) wm_X11_83 rfl (Nat.le_of_ble_eq_true rfl) rfl (Nat.le_of_ble_eq_true rfl) ⟨(Nat.le_of_ble_eq_true rfl), (Nat.le_of_ble_eq_true rfl)⟩ (fun hi => x_okC (h := (g.1, g.2.1, g.2.2, adL [b, q1, q2, (s2 1), (s2 2), (s2 3), (s2 4), (s2 5), (s2 6), (s2 7), (s2 8), (s2 9), (s2 10), (s2 11), (s2 12), (s2 13), (s2 14), (s2 15), q3, (s3 1), (s3 2), (s3 3), (s3 4), (s3 5), (s3 6), (s3 7), (s3 8), (s3 9), (s3 10), (s3 11), (s3 12), (s3 13), (s3 14), (s3 15), (s3 16), (s3 17), (s3 18), (s3 19), (s3 20), (s3 21), (s3 22), q4, (s4 1), q5, (s5 1), (s5 2), q6, (s6 1), (s6 2), (s6 3), (s6 4), (s6 5), q7, q8, (s8 1), (s8 2), (s8 3), q9, (s9 1), (s9 2), (s9 3), (s9 4), (s9 5), q10] z, fun _ => True)) hi) (fun s U hz hW hF hA => ((hz.2.warm hW hF).narrow hA).ad (adL_far (Nat.le_of_ble_eq_true rfl))) (a1 _ 0 _ rfl) (fun r S' hq => ?_)
  obtain ⟨rfl, hq⟩ := hq
  subst hq
  refine n_aload_n (x_at tdX11_init 72 rfl) rfl rfl ?_
  refine n_get (i := 0) (k := 5) xc_11 (x_at tdX11_init 73 rfl) wf_X11_41 (by decide) (x_ws_get (lC_0 (g.1, g.2.1, g.2.2, adL [b, q1, q2, (s2 1), (s2 2), (s2 3), (s2 4), (s2 5), (s2 6), (s2 7), (s2 8), (s2 9), (s2 10), (s2 11), (s2 12), (s2 13), (s2 14), (s2 15), q3, (s3 1), (s3 2), (s3 3), (s3 4), (s3 5), (s3 6), (s3 7), (s3 8), (s3 9), (s3 10), (s3 11), (s3 12), (s3 13), (s3 14), (s3 15), (s3 16), (s3 17), (s3 18), (s3 19), (s3 20), (s3 21), (s3 22), q4, (s4 1), q5, (s5 1), (s5 2), q6, (s6 1), (s6 2), (s6 3), (s6 4), (s6 5), q7, q8, (s8 1), (s8 2), (s8 3), q9, (s9 1), (s9 2), (s9 3), (s9 4), (s9 5), q10] z, fun _ => True))) rfl ?_
  refine n_callV (G := gC (g.1, g.2.1, g.2.2, adL [b, q1, q2, (s2 1), (s2 2), (s2 3), (s2 4), (s2 5), (s2 6), (s2 7), (s2 8), (s2 9), (s2 10), (s2 11), (s2 12), (s2 13), (s2 14), (s2 15), q3, (s3 1), (s3 2), (s3 3), (s3 4), (s3 5), (s3 6), (s3 7), (s3 8), (s3 9), (s3 10), (s3 11), (s3 12), (s3 13), (s3 14), (s3 15), (s3 16), (s3 17), (s3 18), (s3 19), (s3 20), (s3 21), (s3 22), q4, (s4 1), q5, (s5 1), (s5 2), q6, (s6 1), (s6 2), (s6 3), (s6 4), (s6 5), q7, q8, (s8 1), (s8 2), (s8 3), q9, (s9 1), (s9 2), (s9 3), (s9 4), (s9 5), q10] z, fun _ => True)) (S := S') (o := 43) (d' := 2) (as := []) (rest := []) (Kc := kV (fun S2 => S2 = (x_putA (x_putI (x_putI S' 43 4 0) 43 5 0) 44 (va_cpy (S'.1 42) (S'.1 44) 0 0 23)))) mi_X2_forgetActs vc_2 rfl (x_at tdX11_init 74 rfl) wm_X11_86 rfl (Nat.le_of_ble_eq_true rfl) rfl (Nat.le_of_ble_eq_true rfl) ⟨(Nat.le_of_ble_eq_true rfl), (Nat.le_of_ble_eq_true rfl)⟩ (fun hi => x_okC (h := (g.1, g.2.1, g.2.2, adL [b, q1, q2, (s2 1), (s2 2), (s2 3), (s2 4), (s2 5), (s2 6), (s2 7), (s2 8), (s2 9), (s2 10), (s2 11), (s2 12), (s2 13), (s2 14), (s2 15), q3, (s3 1), (s3 2), (s3 3), (s3 4), (s3 5), (s3 6), (s3 7), (s3 8), (s3 9), (s3 10), (s3 11), (s3 12), (s3 13), (s3 14), (s3 15), (s3 16), (s3 17), (s3 18), (s3 19), (s3 20), (s3 21), (s3 22), q4, (s4 1), q5, (s5 1), (s5 2), q6, (s6 1), (s6 2), (s6 3), (s6 4), (s6 5), q7, q8, (s8 1), (s8 2), (s8 3), q9, (s9 1), (s9 2), (s9 3), (s9 4), (s9 5), q10] z, fun _ => True)) hi) (fun s U hz hW hF hA => ((hz.2.warm hW hF).narrow hA).ad (adL_far (Nat.le_of_ble_eq_true rfl))) (m_forgetActs (hc := (g.1, g.2.1, g.2.2, adL [b, q1, q2, (s2 1), (s2 2), (s2 3), (s2 4), (s2 5), (s2 6), (s2 7), (s2 8), (s2 9), (s2 10), (s2 11), (s2 12), (s2 13), (s2 14), (s2 15), q3, (s3 1), (s3 2), (s3 3), (s3 4), (s3 5), (s3 6), (s3 7), (s3 8), (s3 9), (s3 10), (s3 11), (s3 12), (s3 13), (s3 14), (s3 15), (s3 16), (s3 17), (s3 18), (s3 19), (s3 20), (s3 21), (s3 22), q4, (s4 1), q5, (s5 1), (s5 2), q6, (s6 1), (s6 2), (s6 3), (s6 4), (s6 5), q7, q8, (s8 1), (s8 2), (s8 3), q9, (s9 1), (s9 2), (s9 3), (s9 4), (s9 5), q10] z, fun _ => True)) (d := 0) (K := fun S2 => S2 = (x_putA (x_putI (x_putI S' 43 4 0) 43 5 0) 44 (va_cpy (S'.1 42) (S'.1 44) 0 0 23))) rfl) (fun r S2 hq => ?_)
  obtain ⟨rfl, hq⟩ := hq
  subst hq
  exact n_return rfl (x_at tdX11_init 75 rfl) ⟨[b, q1, q2, (s2 1), (s2 2), (s2 3), (s2 4), (s2 5), (s2 6), (s2 7), (s2 8), (s2 9), (s2 10), (s2 11), (s2 12), (s2 13), (s2 14), (s2 15), q3, (s3 1), (s3 2), (s3 3), (s3 4), (s3 5), (s3 6), (s3 7), (s3 8), (s3 9), (s3 10), (s3 11), (s3 12), (s3 13), (s3 14), (s3 15), (s3 16), (s3 17), (s3 18), (s3 19), (s3 20), (s3 21), (s3 22), q4, (s4 1), q5, (s5 1), (s5 2), q6, (s6 1), (s6 2), (s6 3), (s6 4), (s6 5), q7, q8, (s8 1), (s8 2), (s8 3), q9, (s9 1), (s9 2), (s9 3), (s9 4), (s9 5), q10], _, rfl, rfl, rfl, relInit a2⟩
end
