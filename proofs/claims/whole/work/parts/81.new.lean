section
-- CONSTRUCTION: worlds that grow. launch, classes and slots, array classes
abbrev nG : Type := Launch × va_G × (Nat → ClassId)
abbrev n_tys (g : nG) : List (ClassId × FieldType) := [(g.2.2 0, .int), (g.2.2 1, .byte), (g.2.2 2, .boolean), (g.2.2 3, .long)]
abbrev n_room (d mc ms : Nat) : Room := { frames := d, cells := mc, slots := ms, locals := 64 * d }
def n_Q (g : nG) (A : Nat → Prop) (K : va_W → Prop) : Array Value → State → Outcome → State → Prop := fun _ st oc t => (∃ ws : va_W, oc = .returned none ∧ K ws ∧ va_P g.2.1 vwCl ws t.heap ∧ va_D A ws) ∧ va_F A st t
/-- a constructor's contract: its object's cell alone is there; behind it the world is one of K -/
def EN (g : nG) (Z : State → Prop) (d mc ms : Nat) (Y : xY) (as : List Value) (b : Nat) (e0 : va_E) (K : va_W → Prop) : Prop :=
  ∀ sz : Nat, Met g.1 Y.1 (x_wsY Y) (n_room d mc ms) (va_Pc as (fun U => U.heap.size = sz ∧ va_K g.2.1 vwCl (n_tys g) U ∧ va_P g.2.1 vwCl [(b, e0)] U.heap ∧ Z U)) (n_Q g (va_A [(b, e0)] sz) K) mc ms (va_A [(b, e0)] sz)
def XN (g : nG) (A : Nat → Prop) (Z : State → Prop) (d mc ms : Nat) (Y : xY) (pc : Nat) (lv : List (Nat × Value)) (st : List Value) (cells slots : Nat) (ws : va_W) (K : va_W → Prop) : Prop :=
  ∀ (p : Program) (e : Env) (s : State) (m : MethodId) (args : Array Value) (below : List Frame) (meth : Method) (c : Code) (H : Heap) (locs : List Loc) (ls : Array Slot),
    x_C p s m args meth c Y → meth.name = "<init>" → va_K g.2.1 vwCl (n_tys g) s → Z s → va_P g.2.1 vwCl ws H → va_D A ws → va_S A s.heap H locs → (∀ q, s.heap.size ≤ q → A q) → lv_has ls Y.2.2.1 lv →
    W p g.1 e (n_room d mc ms) s m args below meth c H locs cells slots (MQ below (n_Q g A K) args s mc ms A) (F0 m pc ls st)
theorem n_enter {g : nG} {Z : State → Prop} {d mc ms : Nat} {Y : xY} {as : List Value} {b : Nat} {e0 : va_E} {K : va_W → Prop} (hy : plainName Y.1.cls = true) (hi : Y.1.name = "<init>") (hn : (lg_sl as).length ≤ Y.2.2.1) (h : ∀ sz, XN g (va_A [(b, e0)] sz) Z d mc ms Y 0 (lv_args 0 as) [] 0 0 [(b, e0)] K) : EN g Z d mc ms Y as b e0 K := by
  intro sz
  refine Met.ofW (cc := Y.2.1) (maxL := Y.2.2.1) (ret := Y.2.2.2) hy rfl ?_
  intro p e s m args below meth c s₁ B hml hv
  obtain ⟨rfl, hsz, hK, hP, hZ⟩ := hv
  rw [lg_entry_eq]
  subst hsz
  have hD : va_D (va_A [(b, e0)] s.heap.size) [(b, e0)] := by
    refine va_D.self (A := fun _ => True) ⟨fun i j p q h1 h2 _ => ?_, fun _ _ _ => trivial⟩
    have a1 := (List.getElem?_eq_some_iff.mp h1).1
    have a2 := (List.getElem?_eq_some_iff.mp h2).1
    simp at a1 a2
    omega
  exact h s.heap.size p e s m _ below meth c s.heap [] _ ⟨B.exec, B.bytes, B.returns, hml, findClass_of_methodNamed B.named, atoms_spec (ws := x_wsY Y) B.pre, B.notSynchronized⟩ ((name_of_methodNamed B.named B.method).1.trans hi) hK hZ hP hD va_S.rf (fun _ q => Or.inr q) (lv_entry as hn)
end
section
variable {g : nG} {A : Nat → Prop} {Z : State → Prop} {d mc ms : Nat} {Y : xY} {pc : Nat} {lv : List (Nat × Value)} {st : List Value} {cells slots : Nat} {ws : va_W} {K : va_W → Prop}
theorem n_aload_n {k : Fin 4} {i : Nat} {x : Nat} (hd : decode Y.2.1 pc = .ok (.aload_n k, 1)) (hi : (k : Nat) = i) (hx : x_get lv i = some (.ref x)) (h : XN g A Z d mc ms Y (pc + 1) lv (.ref x :: st) cells slots ws K) : XN g A Z d mc ms Y pc lv st cells slots ws K := by
  intro p e s m args below meth c H locs ls C hi' hK hZ hP hD hS hA hl
  exact lv_aload_n C.1 C.2.1 hd hi (x_get_at hl hx) (h p e s m args below meth c H locs ls C hi' hK hZ hP hD hS hA hl)
theorem n_dup {v : Value} (hd : decode Y.2.1 pc = .ok (.dup, 1)) (hc : v.category = 1) (h : XN g A Z d mc ms Y (pc + 1) lv (v :: v :: st) cells slots ws K) : XN g A Z d mc ms Y pc lv (v :: st) cells slots ws K := by
  intro p e s m args below meth c H locs ls C hi' hK hZ hP hD hS hA hl
  exact lv_dup C.1 C.2.1 hd hc (h p e s m args below meth c H locs ls C hi' hK hZ hP hD hS hA hl)
theorem n_iconst {n : Int} {v : Int32} (hd : decode Y.2.1 pc = .ok (.iconst n, 1)) (hv : Int32.ofInt n = v) (h : XN g A Z d mc ms Y (pc + 1) lv (.int v :: st) cells slots ws K) : XN g A Z d mc ms Y pc lv st cells slots ws K := by
  intro p e s m args below meth c H locs ls C hi' hK hZ hP hD hS hA hl
  exact lv_iconst C.1 C.2.1 hd hv (h p e s m args below meth c H locs ls C hi' hK hZ hP hD hS hA hl)
theorem n_bipush {n : Int} {v : Int32} (hd : decode Y.2.1 pc = .ok (.bipush n, 2)) (hv : (Int8.ofInt n).toInt32 = v) (h : XN g A Z d mc ms Y (pc + 2) lv (.int v :: st) cells slots ws K) : XN g A Z d mc ms Y pc lv st cells slots ws K := by
  intro p e s m args below meth c H locs ls C hi' hK hZ hP hD hS hA hl
  exact lv_bipush C.1 C.2.1 hd hv (h p e s m args below meth c H locs ls C hi' hK hZ hP hD hS hA hl)
theorem n_sipush {n : Int} {v : Int32} (hd : decode Y.2.1 pc = .ok (.sipush n, 3)) (hv : (Int16.ofInt n).toInt32 = v) (h : XN g A Z d mc ms Y (pc + 3) lv (.int v :: st) cells slots ws K) : XN g A Z d mc ms Y pc lv st cells slots ws K := by
  intro p e s m args below meth c H locs ls C hi' hK hZ hP hD hS hA hl
  exact lv_sipush C.1 C.2.1 hd hv (h p e s m args below meth c H locs ls C hi' hK hZ hP hD hS hA hl)
theorem n_obj {ix a : Nat} (hd : decode Y.2.1 pc = .ok (.invokespecial ix, 3)) (hw : Cond.methodLink Y.1.cls ix Lib.objectInit ∈ x_TT) (h1 : Cond.instanceMethod Lib.objectInit ∈ x_TT) (h2 : Cond.code Lib.objectInit ⟨#[0xb1]⟩ 1 none ∈ x_TT) (hr : (st.map fun v => v.category).sum ≤ 8) (h : XN g A Z (d + 1) mc ms Y (pc + 3) lv st cells slots ws K) : XN g A Z (d + 1) mc ms Y pc lv (.ref a :: st) cells slots ws K := by
  intro p e s m args below meth c H locs ls C hi' hK hZ hP hD hS hA hl
  have ht : ∀ w, w ∈ x_TT → w.before args s = true := fun w h => C.2.2.2.2.2.1 w (List.mem_cons_of_mem _ h)
  refine W.objInit (g := F0 m pc ls (.ref a :: st)) C.1 C.2.1 C.2.2.2.2.1 (ht _ hw) (ht _ h1) (ht _ h2) rfl (hl.1.trans C.2.2.2.1.symm) rfl hd (by show 1 ≤ d + 1; omega) ?_ (h p e s m args below meth c H locs ls C hi' hK hZ hP hD hS hA hl)
  have := lv_room (m := m) (pc := pc) (ls := ls) (rest := .ref a :: st) hr
  show 2 * (F0 m pc ls (.ref a :: st)).monitorRoom + (st.map fun v => v.category).sum + 12 ≤ 64 * (d + 1)
  omega
theorem n_return (hr : Y.2.2.2 = none) (hd : decode Y.2.1 pc = .ok (.return_, 1)) (h : K ws) : XN g A Z d mc ms Y pc lv [] mc ms ws K := by
  intro p e s m args below meth c H locs ls C hi' hK hZ hP hD hS hA hl
  exact W.vret C.1 C.2.1 (C.2.2.1.trans hr) (fun t ht _ => ⟨⟨ws, rfl, h, by rw [ht]; exact hP, hD⟩, hS.F ht⟩) hS.2.2 hd C.2.2.2.2.2.2
theorem n_cnt {c1 s1 : Nat} (e1 : cells = c1) (e2 : slots = s1) (h : XN g A Z d mc ms Y pc lv st c1 s1 ws K) : XN g A Z d mc ms Y pc lv st cells slots ws K := by
  subst e1; subst e2; exact h
theorem n_ws {w1 : va_W} (e1 : ws = w1) (h : XN g A Z d mc ms Y pc lv st cells slots w1 K) : XN g A Z d mc ms Y pc lv st cells slots ws K := by
  subst e1; exact h
theorem n_tysE {s : State} {t : Nat} {ty : FieldType} {cA : ClassId} (hK : va_K g.2.1 vwCl (n_tys g) s) (ht : (n_tys g)[t]? = some (g.2.2 t, ty)) (hp : va_RA s cA ty) (hq : ∀ c, va_RA s c ty = (s.vm.findClass ("[" ++ ty.toString) = some c)) : cA = g.2.2 t := by
  have h1 := (hK.2 t _ ht).2
  rw [hq] at h1 hp
  exact Option.some.inj (hp.symm.trans h1)
/-- a new row of ints (0), bytes (1), booleans (2) -/
theorem n_newi {t : Nat} {at' : ArrayType} {ty : FieldType} {v : Int32} {n : Nat} (hd : decode Y.2.1 pc = .ok (.newarray at', 2)) (hty : newarray.typeOf at' = ty) (hw : Cond.arrayClass ty ∈ x_TT) (ht : (n_tys g)[t]? = some (g.2.2 t, ty)) (hq : ∀ (s : State) c, va_RA s c ty = (s.vm.findClass ("[" ++ ty.toString) = some c)) (h0 : defaultValue ty = .int 0) (hb : n * componentBytes ty ≤ 536870912) (hn : ¬ v < 0) (hN : v.toNatClampNeg = n) (hc : cells + 1 ≤ mc) (hs : slots + n ≤ ms)
    (h : ∀ q, XN g A Z d mc ms Y (pc + 2) lv (.ref q :: st) (cells + 1) (slots + n) (ws ++ [(q, .inl (g.2.2 t, n, .inl (fun _ => 0)))]) K) : XN g A Z d mc ms Y pc lv (.int v :: st) cells slots ws K := by
  intro p e s m args below meth c H locs ls C hi' hK hZ hP hD hS hA hl
  have htw : (Cond.arrayClass (newarray.typeOf at')).before args s = true := by rw [hty]; exact C.2.2.2.2.2.1 _ (List.mem_cons_of_mem _ hw)
  refine va_newa (a0 := (n, .inl (fun _ => 0))) C.1 C.2.1 htw hty hK hP hD hS hA (fun cA => by rw [h0]; rfl) hn hN hb hc hs hd (fun q cA H1 hK1 hP1 hD1 hS1 => ?_)
  have hlast := hK1.2 (n_tys g).length (cA, ty) (by simp)
  have e1 : cA = g.2.2 t := n_tysE hK ht hlast.2 (hq s)
  subst e1
  exact h q p e s m args below meth c H1 locs ls C hi' hK hZ hP1 hD1 hS1 hA hl
/-- a new row of longs -/
theorem n_newl {v : Int32} {n : Nat} (hd : decode Y.2.1 pc = .ok (.newarray .long, 2)) (hw : Cond.arrayClass .long ∈ x_TT) (hb : n * componentBytes .long ≤ 536870912) (hn : ¬ v < 0) (hN : v.toNatClampNeg = n) (hc : cells + 1 ≤ mc) (hs : slots + n ≤ ms)
    (h : ∀ q, XN g A Z d mc ms Y (pc + 2) lv (.ref q :: st) (cells + 1) (slots + n) (ws ++ [(q, .inl (g.2.2 3, n, .inr (.inl (fun _ => 0))))]) K) : XN g A Z d mc ms Y pc lv (.int v :: st) cells slots ws K := by
  intro p e s m args below meth c H locs ls C hi' hK hZ hP hD hS hA hl
  have htw : (Cond.arrayClass (newarray.typeOf .long)).before args s = true := C.2.2.2.2.2.1 _ (List.mem_cons_of_mem _ hw)
  refine va_newa (a0 := (n, .inr (.inl (fun _ => 0)))) C.1 C.2.1 htw rfl hK hP hD hS hA (fun cA => rfl) hn hN hb hc hs hd (fun q cA H1 hK1 hP1 hD1 hS1 => ?_)
  have hlast := hK1.2 (n_tys g).length (cA, .long) (by simp; rfl)
  have e1 : cA = g.2.2 3 := n_tysE (ty := .long) (t := 3) hK rfl hlast.2 (fun _ => rfl)
  subst e1
  exact h q p e s m args below meth c H1 locs ls C hi' hK hZ hP1 hD1 hS1 hA hl
theorem n_new {ci N ix : Nat} {Cn : String} {T : u_T} {ty : Nat → FieldType} {fs : List Value} (hc : x_Cls ci Cn T N ty) (hd : decode Y.2.1 pc = .ok (.new ix, 3)) (h1 : Cond.classLink Y.1.cls ix Cn ∈ x_TT) (h2 : Cond.instantiable Cn N ∈ x_TT) (h3 : Cond.initialized Cn ∈ x_TT) (hfs : ∀ j, j < N → defaultValue (ty j) = vp_V fs j) (hcn : cells + 1 ≤ mc) (hs : slots + N ≤ ms)
    (h : ∀ q, XN g A Z d mc ms Y (pc + 3) lv (.ref q :: st) (cells + 1) (slots + N) (ws ++ [(q, .inr (ci, fs))]) K) : XN g A Z d mc ms Y pc lv st cells slots ws K := by
  intro p e s m args below meth c H locs ls C hi' hK hZ hP hD hS hA hl
  have ht : ∀ w, w ∈ x_TT → w.before args s = true := fun w h => C.2.2.2.2.2.1 w (List.mem_cons_of_mem _ h)
  exact va_new (Ts := x_TT) C.1 C.2.1 (fun w h => ht w h) hc.2.1 ty hc.2.2.1 C.2.2.2.2.1 (ht _ h1) (ht _ h2) (ht _ h3) hK hP hD hS hA hc.1 hfs hcn hs hd (fun q H1 hP1 hD1 hS1 => h q p e s m args below meth c H1 locs ls C hi' hK hZ hP1 hD1 hS1 hA hl)
/-- a field of the head object -/
theorem n_put {ci N ix k a : Nat} {Cn : String} {T : u_T} {ty : Nat → FieldType} {fs fs' : List Value} {v : Value} {rest : va_W} (hc : x_Cls ci Cn T N ty) (hd : decode Y.2.1 pc = .ok (.putfield ix, 3)) (hw : Cond.fieldLink Y.1.cls ix (T k).1 (T k).2.1 (T k).2.2.1 ∈ x_TT) (hk : k < N) (hfin : (T k).2.2.2 = false) (hn : narrow (ty k) v = v) (hfit : fits (ty k) v = true) (hl0 : k < fs.length) (hfs : fs.set k v = fs')
    (h : XN g A Z d mc ms Y (pc + 3) lv st cells slots ((a, .inr (ci, fs')) :: rest) K) : XN g A Z d mc ms Y pc lv (v :: .ref a :: st) cells slots ((a, .inr (ci, fs)) :: rest) K := by
  intro p e s m args below meth c H locs ls C hi' hK hZ hP hD hS hA hl
  subst hfs
  have ht : ∀ w, w ∈ x_TT → w.before args s = true := fun w h => C.2.2.2.2.2.1 w (List.mem_cons_of_mem _ h)
  exact va_put (Ts := x_TT) C.1 C.2.1 (fun w h => ht w h) hc.2.1 ty hc.2.2.1 hc.2.2.2 C.2.2.2.2.1 hK hP hD hS 0 rfl hc.1 k hk (ht _ hw) (fun _ hx => hx) hfin (hc.2.2.1 k hk) hn hfit hl0 hd (fun H1 locs1 hP1 hD1 hS1 => h p e s m args below meth c H1 locs1 ls C hi' hK hZ hP1 hD1 hS1 hA hl)
theorem n_putF {ci N ix k a : Nat} {T : u_T} {ty : Nat → FieldType} {fs fs' : List Value} {v : Value} {rest : va_W} (hc : x_Cls ci Y.1.cls T N ty) (hd : decode Y.2.1 pc = .ok (.putfield ix, 3)) (hw : Cond.fieldLink Y.1.cls ix (T k).1 (T k).2.1 (T k).2.2.1 ∈ x_TT) (hk : k < N) (hdc : (T k).1 = Y.1.cls) (hfin : (T k).2.2.2 = true) (hn : narrow (ty k) v = v) (hfit : fits (ty k) v = true) (hl0 : k < fs.length) (hfs : fs.set k v = fs')
    (h : XN g A Z d mc ms Y (pc + 3) lv st cells slots ((a, .inr (ci, fs')) :: rest) K) : XN g A Z d mc ms Y pc lv (v :: .ref a :: st) cells slots ((a, .inr (ci, fs)) :: rest) K := by
  intro p e s m args below meth c H locs ls C hi' hK hZ hP hD hS hA hl
  subst hfs
  have ht : ∀ w, w ∈ x_TT → w.before args s = true := fun w h => C.2.2.2.2.2.1 w (List.mem_cons_of_mem _ h)
  exact va_putF (Ts := x_TT) C.1 C.2.1 (fun w h => ht w h) hc.2.1 ty hc.2.2.1 hc.2.2.2 C.2.2.2.2.1 hK hP hD hS 0 rfl hc.1 k hk (ht _ hw) (fun _ hx => hx) hfin hi' hdc (hc.2.2.1 k hk) hn hfit hl0 hd (fun H1 locs1 hP1 hD1 hS1 => h p e s m args below meth c H1 locs1 ls C hi' hK hZ hP1 hD1 hS1 hA hl)
theorem n_get {ci N ix k a i : Nat} {Cn : String} {T : u_T} {ty : Nat → FieldType} {fs : List Value} {v : Value} (hc : x_Cls ci Cn T N ty) (hd : decode Y.2.1 pc = .ok (.getfield ix, 3)) (hw : Cond.fieldLink Y.1.cls ix (T k).1 (T k).2.1 (T k).2.2.1 ∈ x_TT) (hk : k < N) (he : ws[i]? = some (a, .inr (ci, fs))) (hv : fs[k]? = some v)
    (h : XN g A Z d mc ms Y (pc + 3) lv (v :: st) cells slots ws K) : XN g A Z d mc ms Y pc lv (.ref a :: st) cells slots ws K := by
  intro p e s m args below meth c H locs ls C hi' hK hZ hP hD hS hA hl
  have ht : ∀ w, w ∈ x_TT → w.before args s = true := fun w h => C.2.2.2.2.2.1 w (List.mem_cons_of_mem _ h)
  exact va_get (Ts := x_TT) (C := Cn) (T := T) (N := N) C.1 C.2.1 (fun w h => ht w h) hc.2.1 C.2.2.2.2.1 hK hP i he hc.1 k hk (ht _ hw) (fun _ hx => hx) hv hd (h p e s m args below meth c H locs ls C hi' hK hZ hP hD hS hA hl)
end
section
variable {g : nG} {A : Nat → Prop} {Z : State → Prop} {d mc ms : Nat} {Y : xY} {pc : Nat} {lv : List (Nat × Value)} {st : List Value} {cells slots : Nat} {ws : va_W} {K : va_W → Prop}
theorem n_one {b k q : Nat} {e0 e : va_E} (h : ([(b, e0)] : va_W)[k]? = some (q, e)) : q = b ∧ e = e0 ∧ k = 0 := by
  have hk := (List.getElem?_eq_some_iff.mp h).1
  simp at hk
  subst hk
  have h1 : (b, e0) = (q, e) := Option.some.inj h
  exact ⟨(congrArg Prod.fst h1).symm, (congrArg Prod.snd h1).symm, rfl⟩
theorem n_callK {p : Program} {e : Env} {R : Room} {s : State} {m : MethodId} {args a : Array Value} {below : List Frame} {meth : Method} {c : Code} {H : Heap} {locs : List Loc} {ls : Array Slot} {Q : State → Prop} {st0 rest : List Value} {b mc' ms' : Nat} {e0 : va_E} {ws' : va_W} {K' : va_W → Prop}
    (hr : va_Run p g.1 e R s m args below meth c H locs cells slots mc' ms' (F0 m pc ls st0) rest (n_Q g (va_A [(b, e0)] H.size) K' a) (va_A [(b, e0)] H.size))
    (hP : va_P g.2.1 vwCl (ws' ++ [(b, e0)]) H) (hD : va_D A (ws' ++ [(b, e0)])) (hS : va_S A s.heap H locs) (hA : ∀ q, s.heap.size ≤ q → A q)
    (kk : ∀ (w : va_W) (H1 : Heap) (locs1 : List Loc), K' w → va_P g.2.1 vwCl (ws' ++ w) H1 → va_D A (ws' ++ w) → va_S A s.heap H1 locs1 → W p g.1 e R s m args below meth c H1 locs1 (cells + mc') (slots + ms') Q (F0 m (pc + 3) ls rest)) :
    W p g.1 e R s m args below meth c H locs cells slots Q (F0 m pc ls st0) := by
  have hbw : (ws' ++ [(b, e0)])[ws'.length]? = some (b, e0) := by simp
  have lift : ∀ (k : Nat) (x : Nat × va_E), ws'[k]? = some x → (ws' ++ [(b, e0)])[k]? = some x := fun k x hx => by
    rw [List.getElem?_append_left (List.getElem?_eq_some_iff.mp hx).1]; exact hx
  have hF : ∀ q, va_A [(b, e0)] H.size q → A q := by
    intro q h
    rcases h with ⟨k, e', h⟩ | h
    · rw [(n_one h).1]; exact hD.2 _ _ hbw
    · exact hA q (Nat.le_trans hS.1 h)
  have hap : ∀ (k : Nat) (x : Nat × va_E), ws'[k]? = some x → x.1 < H.size ∧ ¬ va_A [(b, e0)] H.size x.1 := by
    intro k x hx
    have hlt := (hP k x (lift k x hx)).lt
    refine ⟨hlt, ?_⟩
    rintro (⟨j, e', h⟩ | h)
    · have e2 : x.1 = b := (n_one h).1
      have h3 := hD.1 k ws'.length x (b, e0) (lift k x hx) hbw e2
      have h4 := (List.getElem?_eq_some_iff.mp hx).1
      omega
    · omega
  intro T hT X
  obtain ⟨v, st₀, t, T', L, h0, X', hL, e1, e2, ⟨⟨w, hv, hp, hb, hDw⟩, hz, hk⟩, st⟩ := hr T hT X
  cases hv
  rw [h0] at hz hk
  have hq : ∀ q : Nat, q < H.size → ¬ va_A [(b, e0)] H.size q → T'.heap[q]? = H[q]? := fun q h1 h2 => by rw [e1]; exact hk q h1 h2
  obtain ⟨t2, a1, b1⟩ := kk w T'.heap (locs ++ L) hp
    (va_P.app (va_P.kept (fun k x hx => hP k x (lift k x hx)) (fun k x hx => hq x.1 (hap k x hx).1 (hap k x hx).2)) (by rw [e1]; exact hb))
    (va_D.app ⟨fun i j x y hx hy he => hD.1 i j x y (lift i x hx) (lift j y hy) he, fun k x hx => hD.2 k x (lift k x hx)⟩ (hDw.weaken (fun _ _ _ h => hF _ h)) (fun i j x y hx hy he => (hap i x hx).2 (by rw [he]; exact hDw.2 j y hy)))
    ⟨Nat.le_trans hS.1 (by rw [e1]; exact hz), fun q h1 h2 => by rw [hq q (Nat.lt_of_lt_of_le h1 hS.1) (fun z => h2 (hF q z))]; exact hS.2.1 q h1 h2, fun q hq => by
      rcases List.mem_append.mp hq with h | h
      · exact hS.2.2 q h
      · exact hF _ (hL q h)⟩ T' rfl X'
  exact ⟨t2, st t2 a1, b1⟩
theorem n_goodI {Y Y' : xY} {n : Nat} (hM : x_M Y' n) : GoodIn (x_wsY Y) (x_wsY Y') := by
  have go : ∀ w, w ∈ x_TT → w ∈ x_wsY Y ∧ ((w.onTables && w.keeps) = true ∨ ∃ ty, w = .arrayClass ty) := fun w h => ⟨List.mem_cons_of_mem _ h, x_good h⟩
  intro w h
  rcases List.mem_cons.mp h with h | h
  · rw [h]; exact go _ hM.1
  · exact go _ h
theorem n_blind {Z' : State → Prop} {b z : Nat} {e0 : va_E} {as : List Value} (hzb : ∀ s U : State, Z' s → U.vm = s.vm → U.heap = s.heap → Z' U) : FrameBlind (va_Pc as (fun U => U.heap.size = z ∧ va_K g.2.1 vwCl (n_tys g) U ∧ va_P g.2.1 vwCl [(b, e0)] U.heap ∧ Z' U)) :=
  fun a U gg mk q => ⟨q.1, q.2.1, va_K.moved (u := U) (U := U.calling gg mk a) (Vm.Alike.refl U.vm) q.2.2.1, q.2.2.2.1, hzb U _ q.2.2.2.2 rfl rfl⟩
theorem n_pre {Z' : State → Prop} {b : Nat} {e0 : va_E} {as : List Value} {ws' : va_W} {s : State} {H : Heap} (hK : va_K g.2.1 vwCl (n_tys g) s) (hP : va_P g.2.1 vwCl (ws' ++ [(b, e0)]) H) (hz : ∀ U : State, U.heap = H → s.WarmedH U.vm → Z' U) : ∀ U : State, U.heap = H → s.WarmedH U.vm → va_Pc as (fun U => U.heap.size = H.size ∧ va_K g.2.1 vwCl (n_tys g) U ∧ va_P g.2.1 vwCl [(b, e0)] U.heap ∧ Z' U) as.toArray U :=
  fun U hU hW => ⟨rfl, by rw [hU], va_K.moved hW.alike hK, by
    rw [hU]
    intro k q hk
    obtain ⟨h1, h2, h3⟩ := n_one (q := q.1) (e := q.2) hk
    subst h3
    have := hP ws'.length (b, e0) (by simp)
    rw [← h1, ← h2] at this
    exact this, hz U hU hW⟩
/-- a constructor of a class whose constructor isn't private -/
theorem n_init {Y' : xY} {Z' : State → Prop} {d' mc' ms' b ix n : Nat} {e0 : va_E} {as rest : List Value} {ws' : va_W} {K' : va_W → Prop} (hM : x_M Y' n) (hin : Cond.instanceMethod Y'.1 ∈ x_TT) (hi : Y'.1.name = "<init>") (hrt : Y'.2.2.2 = none) (hd : decode Y.2.1 pc = .ok (.invokespecial ix, 3)) (hw : Cond.methodLink Y.1.cls ix Y'.1 ∈ x_TT) (hn : as.length = n) (hr : (rest.map fun v => v.category).sum ≤ 8) (hs : st = as.reverse ++ .ref b :: rest) (hdd : d' + 1 ≤ d) (hc : cells + mc' ≤ mc) (hsl : slots + ms' ≤ ms) (hz : ∀ s U : State, Z s → s.WarmedH U.vm → Z' U) (hzb : ∀ s U : State, Z' s → U.vm = s.vm → U.heap = s.heap → Z' U)
    (h : EN g Z' d' mc' ms' Y' (.ref b :: as) b e0 K') (hk : ∀ w, K' w → XN g A Z d mc ms Y (pc + 3) lv rest (cells + mc') (slots + ms') (ws' ++ w) K) : XN g A Z d mc ms Y pc lv st cells slots (ws' ++ [(b, e0)]) K := by
  intro p e s m args below meth c H locs ls C hi' hK hZ hP hD hS hA hl
  subst hs
  have ht : ∀ w, w ∈ x_TT → w.before args s = true := fun w h => C.2.2.2.2.2.1 w (List.mem_cons_of_mem _ h)
  obtain ⟨m1, m2, m3, m4, m5, m6⟩ := id hM
  exact n_callK (va_runI (g := F0 m pc ls (as.reverse ++ .ref b :: rest)) (As := as) (rest := rest) ⟨C.1, C.2.1, C.2.2.2.1, C.2.2.2.2.1, C.2.2.2.2.2.1⟩ (h H.size) (cwI (bytes := Y'.2.1) (maxL := Y'.2.2.1) (ws' := x_TT) n C.2.2.2.2.2.1 (n_goodI hM) (by rw [← hrt]) rfl rfl (ht _ m2) (ht _ hw) (ht _ hin) hi ⟨m4, m5, m6⟩ ⟨hdd, by show 8 + (Y'.2.2.1 + 11) + 64 * d' ≤ 64 * d; omega⟩) ⟨n_blind hzb, n_pre hK hP (fun U _ hW => hz s U hZ hW)⟩ rfl hn hl.1 rfl (lv_room hr) hd ⟨hc, hsl⟩) hP hD hS hA (fun w H1 locs1 q hP1 hD1 hS1 => hk w q p e s m args below meth c H1 locs1 ls C hi' hK hZ hP1 hD1 hS1 hA hl)
/-- a private constructor of a nest mate -/
theorem n_initN {Y' : xY} {Z' : State → Prop} {d' mc' ms' b ix n : Nat} {host : String} {e0 : va_E} {as rest : List Value} {ws' : va_W} {K' : va_W → Prop} (hM : x_M Y' n) (hin : Cond.instanceMethod Y'.1 ∈ x_TT) (hi : Y'.1.name = "<init>") (hrt : Y'.2.2.2 = none) (hd : decode Y.2.1 pc = .ok (.invokespecial ix, 3)) (hw : ∀ s, Z s → va_Nw (.methodLinkNest Y.1.cls ix Y'.1 host) s) (hn : as.length = n) (hr : (rest.map fun v => v.category).sum ≤ 8) (hs : st = as.reverse ++ .ref b :: rest) (hdd : d' + 1 ≤ d) (hc : cells + mc' ≤ mc) (hsl : slots + ms' ≤ ms) (hz : ∀ s U : State, Z s → s.WarmedH U.vm → Z' U) (hzb : ∀ s U : State, Z' s → U.vm = s.vm → U.heap = s.heap → Z' U)
    (h : EN g Z' d' mc' ms' Y' (.ref b :: as) b e0 K') (hk : ∀ w, K' w → XN g A Z d mc ms Y (pc + 3) lv rest (cells + mc') (slots + ms') (ws' ++ w) K) : XN g A Z d mc ms Y pc lv st cells slots (ws' ++ [(b, e0)]) K := by
  intro p e s m args below meth c H locs ls C hi' hK hZ hP hD hS hA hl
  subst hs
  have ht : ∀ w, w ∈ x_TT → w.before args s = true := fun w h => C.2.2.2.2.2.1 w (List.mem_cons_of_mem _ h)
  obtain ⟨m1, m2, m3, m4, m5, m6⟩ := id hM
  exact n_callK (va_runIN (g := F0 m pc ls (as.reverse ++ .ref b :: rest)) (As := as) (rest := rest) ⟨C.1, C.2.1, C.2.2.2.1, C.2.2.2.2.1, C.2.2.2.2.2.1⟩ (h H.size) ⟨va_cnB (host := host) (bytes := Y'.2.1) (maxL := Y'.2.2.1) (ws' := x_TT) n C.2.2.2.2.2.1 (n_goodI hM) (by rw [← hrt]) rfl rfl (hw s hZ) (ht _ m2) ⟨m4, m5, m6⟩ ⟨hdd, by show 8 + (Y'.2.2.1 + 11) + 64 * d' ≤ 64 * d; omega⟩, hi, ht _ hin⟩ ⟨n_blind hzb, n_pre hK hP (fun U _ hW => hz s U hZ hW)⟩ rfl hn hl.1 rfl (lv_room hr) hd ⟨hc, hsl⟩) hP hD hS hA (fun w H1 locs1 q hP1 hD1 hS1 => hk w q p e s m args below meth c H1 locs1 ls C hi' hK hZ hP1 hD1 hS1 hA hl)
end
section
-- a method of a system, called from a frame that isn't the system's own
variable {p : Program} {e : Env} {R : Room} {s : State} {m : MethodId} {args : Array Value} {below : List Frame} {meth : Method} {c : Code} {H : Heap} {locs : List Loc} {cells slots : Nat} {Q : State → Prop} {ls : Array Slot} {pc : Nat} {G : xG} {S : xSt} {A : Nat → Prop}
theorem w_call {a : Array Value} {st0 rest : List Value} {Kc : Option Value → xSt → Prop}
    (hr : va_Run p G.1 e R s m args below meth c H locs cells slots 0 0 (F0 m pc ls st0) rest (x_Q G Kc a) (x_A G)) (hS : va_S A s.heap H locs) (hA : ∀ q, x_A G q → A q)
    (kk : ∀ (r : Option Value) (S' : xSt) (H1 : Heap) (locs1 : List Loc), Kc r S' → va_P G.2.1 vwCl (x_ws G S') H1 → H.size ≤ H1.size → (∀ q : Nat, q < H.size → ¬ x_A G q → H1[q]? = H[q]?) → va_S A s.heap H1 locs1 → W p G.1 e R s m args below meth c H1 locs1 cells slots Q (F0 m (pc + 3) ls (r.toList ++ rest))) : W p G.1 e R s m args below meth c H locs cells slots Q (F0 m pc ls st0) := by
  intro T hT X
  obtain ⟨v, st₀, t, T', L, h0, X', hL, e1, e2, ⟨⟨r, S', hv, hp, hb⟩, hz, hk⟩, st⟩ := hr T hT X
  cases hv
  rw [h0] at hz hk
  have hq : ∀ q : Nat, q < H.size → ¬ x_A G q → T'.heap[q]? = H[q]? := fun q h1 h2 => by rw [e1]; exact hk q h1 h2
  obtain ⟨t2, a1, b1⟩ := kk _ S' T'.heap (locs ++ L) hp (by rw [e1]; exact hb) (by rw [e1]; exact hz) hq
    ⟨Nat.le_trans hS.1 (by rw [e1]; exact hz), fun q h1 h2 => by rw [hq q (Nat.lt_of_lt_of_le h1 hS.1) (fun z => h2 (hA q z))]; exact hS.2.1 q h1 h2, fun q hq => by
      rcases List.mem_append.mp hq with h | h
      · exact hS.2.2 q h
      · exact hA _ (hL q h)⟩ T' rfl X'
  exact ⟨t2, st t2 a1, b1⟩
theorem w_callV {cc : ByteArray} {own : String} {d nL : Nat} {Y' : xY} {as rest : List Value} {n ix o ci N : Nat} {T : u_T} {fk : List Nat} {Kc : Option Value → xSt → Prop} (hx : p.tables.exec = Jvm.exec) (hb : c.code = cc) (hml : c.maxLocals = nL) (hown : s.vm.findClass own = some m.cls) (hts : ∀ w ∈ x_TT, w.before args s = true) (hl1 : ls.size = nL)
    (hM : x_MV Y' n) (hc : vwCl[ci]? = some (Y'.1.cls, T, N)) (ho : G.2.2.2.2.1[o]? = some (.inr (ci, fk))) (hd : decode cc pc = .ok (.invokevirtual ix, 3)) (hw : Cond.methodLink own ix Y'.1 ∈ x_TT) (hn : as.length = n) (hr : (rest.map fun v => v.category).sum ≤ 8) (hR : d + 1 ≤ R.frames ∧ 64 * (d + 1) ≤ R.locals) (hcs : cells ≤ R.cells ∧ slots ≤ R.slots)
    (hG : x_ok G) (hK : va_K G.2.1 vwCl (x_tys G) s) (hZ : ∀ U : State, U.heap = H → s.WarmedH U.vm → G.2.2.2.2.2 U) (hP : va_P G.2.1 vwCl (x_ws G S) H) (hS : va_S A s.heap H locs) (hA : ∀ q, x_A G q → A q) (h : E G d Y' (.ref (x_ad G o) :: as) S Kc)
    (kk : ∀ (r : Option Value) (S' : xSt) (H1 : Heap) (locs1 : List Loc), Kc r S' → va_P G.2.1 vwCl (x_ws G S') H1 → H.size ≤ H1.size → (∀ q : Nat, q < H.size → ¬ x_A G q → H1[q]? = H[q]?) → va_S A s.heap H1 locs1 → W p G.1 e R s m args below meth c H1 locs1 cells slots Q (F0 m (pc + 3) ls (r.toList ++ rest))) : W p G.1 e R s m args below meth c H locs cells slots Q (F0 m pc ls (as.reverse ++ .ref (x_ad G o) :: rest)) := by
  obtain ⟨⟨m1, m2, m3, m4, m5, m6⟩, m7, m8⟩ := hM
  have hgood : GoodIn x_TT (wsV own ix Y'.1.cls Y'.1 (x_wsY Y')) := by
    have go : ∀ w, w ∈ x_TT → w ∈ x_TT ∧ ((w.onTables && w.keeps) = true ∨ ∃ ty, w = .arrayClass ty) := fun w h => ⟨h, x_good h⟩
    intro w h
    unfold wsV at h
    simp only [List.cons_append, List.nil_append, List.mem_cons] at h
    rcases h with h | h | h | h | h | h
    · rw [h]; exact go _ hw
    · rw [h]; exact go _ m7
    · rw [h]; exact go _ m8
    · rw [h]; exact go _ m2
    · rw [h]; exact go _ m1
    · exact go _ h
  exact w_call (va_runV (g := F0 m pc ls (as.reverse ++ .ref (x_ad G o) :: rest)) (As := as) (rest := rest) ⟨hx, hb, hml, hown, hts⟩ h (cwV n hts hgood rfl rfl rfl ⟨rfl, m4, m5, m6⟩ ⟨hR.1, by show 8 + (Y'.2.2.1 + 11) + 64 * d ≤ R.locals; omega⟩) ⟨x_blind, va_recv hK hP hc (x_ws_get ho), fun U hU hW => ⟨rfl, hG, va_K.moved hW.alike hK, by rw [hU]; exact hP, hZ U hU hW⟩⟩ rfl hn hl1 rfl (lv_room hr) hd hcs) hS hA kk
end
section
variable {G : xG} {S : xSt} {A : Nat → Prop} {Z : State → Prop} {d mc ms : Nat} {Y : xY} {pc : Nat} {lv : List (Nat × Value)} {st : List Value} {cells slots : Nat} {K : va_W → Prop}
theorem n_callV {d' : Nat} {Y' : xY} {as rest : List Value} {n ix o ci N : Nat} {T : u_T} {fk : List Nat} {Kc : Option Value → xSt → Prop} (hM : x_MV Y' n) (hc : vwCl[ci]? = some (Y'.1.cls, T, N)) (ho : G.2.2.2.2.1[o]? = some (.inr (ci, fk))) (hd : decode Y.2.1 pc = .ok (.invokevirtual ix, 3)) (hw : Cond.methodLink Y.1.cls ix Y'.1 ∈ x_TT) (hn : as.length = n) (hr : (rest.map fun v => v.category).sum ≤ 8) (hs : st = as.reverse ++ .ref (x_ad G o) :: rest) (hdd : d' + 1 ≤ d) (hcs : cells ≤ mc ∧ slots ≤ ms)
    (hG0 : (∀ i j, i < G.2.2.2.2.1.length → j < G.2.2.2.2.1.length → x_ad G i = x_ad G j → i = j) → x_ok G) (hZ : ∀ s U : State, Z s → s.WarmedH U.vm → va_F A s U → (∀ q, x_A G q → A q) → G.2.2.2.2.2 U) (h : E G d' Y' (.ref (x_ad G o) :: as) S Kc)
    (hk : ∀ r S', Kc r S' → XN (G.1, G.2.1, G.2.2.1) A Z d mc ms Y (pc + 3) lv (r.toList ++ rest) cells slots (x_ws G S') K) : XN (G.1, G.2.1, G.2.2.1) A Z d mc ms Y pc lv st cells slots (x_ws G S) K := by
  intro p e s m args below meth c H locs ls C hi' hK hZs hP hD hS hA hl
  subst hs
  have hxA : ∀ q, x_A G q → A q := by
    rintro q ⟨k, hk, rfl⟩
    exact hD.2 k (x_ad G k, x_cell G.2.2.1 (x_ad G) S k G.2.2.2.2.1[k]) (x_ws_get (List.getElem?_eq_getElem hk))
  have hG : x_ok G := hG0 (fun i j hi hj he => hD.1 i j (x_ad G i, x_cell G.2.2.1 (x_ad G) S i G.2.2.2.2.1[i]) (x_ad G j, x_cell G.2.2.1 (x_ad G) S j G.2.2.2.2.1[j]) (x_ws_get (List.getElem?_eq_getElem hi)) (x_ws_get (List.getElem?_eq_getElem hj)) he)
  exact w_callV C.1 C.2.1 C.2.2.2.1 C.2.2.2.2.1 (fun w h => C.2.2.2.2.2.1 w (List.mem_cons_of_mem _ h)) hl.1 hM hc ho hd hw hn hr ⟨hdd, by show 64 * (d' + 1) ≤ 64 * d; omega⟩ hcs hG hK (fun U hU hW => hZ s U hZs hW (hS.F hU) hxA) hP hS hxA h (fun r S' H1 locs1 hk1 hP1 hz1 hq1 hS1 => hk r S' hk1 p e s m args below meth c H1 locs1 ls C hi' hK hZs hP1 ((x_D hG S').weaken (fun _ _ _ h => hxA _ h)) hS1 hA hl)
end
section
variable {g : nG} {A : Nat → Prop} {Z : State → Prop} {d mc ms : Nat} {Y : xY} {pc : Nat} {lv : List (Nat × Value)} {st : List Value} {cells slots : Nat} {rest : va_W} {hd0 : Nat × va_E} {K : va_W → Prop}
theorem n_newiH {t : Nat} {at' : ArrayType} {ty : FieldType} {v : Int32} {n : Nat} (hd : decode Y.2.1 pc = .ok (.newarray at', 2)) (hty : newarray.typeOf at' = ty) (hw : Cond.arrayClass ty ∈ x_TT) (ht : (n_tys g)[t]? = some (g.2.2 t, ty)) (hq : ∀ (s : State) c, va_RA s c ty = (s.vm.findClass ("[" ++ ty.toString) = some c)) (h0 : defaultValue ty = .int 0) (hb : n * componentBytes ty ≤ 536870912) (hn : ¬ v < 0) (hN : v.toNatClampNeg = n) (hc : cells + 1 ≤ mc) (hs : slots + n ≤ ms)
    (h : ∀ q, XN g A Z d mc ms Y (pc + 2) lv (.ref q :: st) (cells + 1) (slots + n) (hd0 :: (rest ++ [(q, .inl (g.2.2 t, n, .inl (fun _ => 0)))])) K) : XN g A Z d mc ms Y pc lv (.int v :: st) cells slots (hd0 :: rest) K :=
  n_newi hd hty hw ht hq h0 hb hn hN hc hs h
theorem n_newlH {v : Int32} {n : Nat} (hd : decode Y.2.1 pc = .ok (.newarray .long, 2)) (hw : Cond.arrayClass .long ∈ x_TT) (hb : n * componentBytes .long ≤ 536870912) (hn : ¬ v < 0) (hN : v.toNatClampNeg = n) (hc : cells + 1 ≤ mc) (hs : slots + n ≤ ms)
    (h : ∀ q, XN g A Z d mc ms Y (pc + 2) lv (.ref q :: st) (cells + 1) (slots + n) (hd0 :: (rest ++ [(q, .inl (g.2.2 3, n, .inr (.inl (fun _ => 0))))])) K) : XN g A Z d mc ms Y pc lv (.int v :: st) cells slots (hd0 :: rest) K :=
  n_newl hd hw hb hn hN hc hs h
theorem n_newH {ci N ix : Nat} {Cn : String} {T : u_T} {ty : Nat → FieldType} {fs : List Value} (hc : x_Cls ci Cn T N ty) (hd : decode Y.2.1 pc = .ok (.new ix, 3)) (h1 : Cond.classLink Y.1.cls ix Cn ∈ x_TT) (h2 : Cond.instantiable Cn N ∈ x_TT) (h3 : Cond.initialized Cn ∈ x_TT) (hfs : ∀ j, j < N → defaultValue (ty j) = vp_V fs j) (hcn : cells + 1 ≤ mc) (hs : slots + N ≤ ms)
    (h : ∀ q, XN g A Z d mc ms Y (pc + 3) lv (.ref q :: st) (cells + 1) (slots + N) (hd0 :: (rest ++ [(q, .inr (ci, fs))])) K) : XN g A Z d mc ms Y pc lv st cells slots (hd0 :: rest) K :=
  n_new hc hd h1 h2 h3 hfs hcn hs h
theorem n_initH {Y' : xY} {Z' : State → Prop} {d' mc' ms' b ix n : Nat} {e0 : va_E} {as rs : List Value} {K' : va_W → Prop} (hM : x_M Y' n) (hin : Cond.instanceMethod Y'.1 ∈ x_TT) (hi : Y'.1.name = "<init>") (hrt : Y'.2.2.2 = none) (hd : decode Y.2.1 pc = .ok (.invokespecial ix, 3)) (hw : Cond.methodLink Y.1.cls ix Y'.1 ∈ x_TT) (hn : as.length = n) (hr : (rs.map fun v => v.category).sum ≤ 8) (hs : st = as.reverse ++ .ref b :: rs) (hdd : d' + 1 ≤ d) (hc : cells + mc' ≤ mc) (hsl : slots + ms' ≤ ms) (hz : ∀ s U : State, Z s → s.WarmedH U.vm → Z' U) (hzb : ∀ s U : State, Z' s → U.vm = s.vm → U.heap = s.heap → Z' U)
    (h : EN g Z' d' mc' ms' Y' (.ref b :: as) b e0 K') (hk : ∀ w, K' w → XN g A Z d mc ms Y (pc + 3) lv rs (cells + mc') (slots + ms') (hd0 :: (rest ++ w)) K) : XN g A Z d mc ms Y pc lv st cells slots (hd0 :: (rest ++ [(b, e0)])) K :=
  n_init (ws' := hd0 :: rest) hM hin hi hrt hd hw hn hr hs hdd hc hsl hz hzb h hk
theorem n_initNH {Y' : xY} {Z' : State → Prop} {d' mc' ms' b ix n : Nat} {host : String} {e0 : va_E} {as rs : List Value} {K' : va_W → Prop} (hM : x_M Y' n) (hin : Cond.instanceMethod Y'.1 ∈ x_TT) (hi : Y'.1.name = "<init>") (hrt : Y'.2.2.2 = none) (hd : decode Y.2.1 pc = .ok (.invokespecial ix, 3)) (hw : ∀ s, Z s → va_Nw (.methodLinkNest Y.1.cls ix Y'.1 host) s) (hn : as.length = n) (hr : (rs.map fun v => v.category).sum ≤ 8) (hs : st = as.reverse ++ .ref b :: rs) (hdd : d' + 1 ≤ d) (hc : cells + mc' ≤ mc) (hsl : slots + ms' ≤ ms) (hz : ∀ s U : State, Z s → s.WarmedH U.vm → Z' U) (hzb : ∀ s U : State, Z' s → U.vm = s.vm → U.heap = s.heap → Z' U)
    (h : EN g Z' d' mc' ms' Y' (.ref b :: as) b e0 K') (hk : ∀ w, K' w → XN g A Z d mc ms Y (pc + 3) lv rs (cells + mc') (slots + ms') (hd0 :: (rest ++ w)) K) : XN g A Z d mc ms Y pc lv st cells slots (hd0 :: (rest ++ [(b, e0)])) K :=
  n_initN (ws' := hd0 :: rest) hM hin hi hrt hd hw hn hr hs hdd hc hsl hz hzb h hk
end
