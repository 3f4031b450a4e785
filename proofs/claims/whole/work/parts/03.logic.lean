section
-- a system's state: ints of (cell, place), longs of (cell, place), the array that a cell's one changing reference names
abbrev xSt : Type := (Nat → Nat → Int32) × (Nat → Nat → Int64) × (Nat → Nat)
-- a cell: an array (0 int, 1 byte, 2 boolean, 3 long; its length), or an object (class; its places: 0 int, 1 long, 2 a changing reference, k + 3 the cell k)
abbrev xKind : Type := (Nat × Nat) ⊕ (Nat × List Nat)
-- launch, classes and slots, array classes, addresses, layout, what holds of the tables and of cells outside
abbrev xG : Type := Launch × va_G × (Nat → ClassId) × (Nat → Nat) × List xKind × (State → Prop)
-- a method: name, code, locals, answer
abbrev xY : Type := MethodName × ByteArray × Nat × Option FieldType
def x_putI (S : xSt) (c j : Nat) (v : Int32) : xSt := (fun c' => if c' = c then upd (S.1 c) j v else S.1 c', S.2.1, S.2.2)
def x_putL (S : xSt) (c j : Nat) (v : Int64) : xSt := (S.1, fun c' => if c' = c then vp_updL (S.2.1 c) j v else S.2.1 c', S.2.2)
def x_putR (S : xSt) (c r : Nat) : xSt := (S.1, S.2.1, fun c' => if c' = c then r else S.2.2 c')
def x_putA (S : xSt) (c : Nat) (f : Nat → Int32) : xSt := (fun c' => if c' = c then f else S.1 c', S.2.1, S.2.2)
def x_sv (ad : Nat → Nat) (S : xSt) (c j k : Nat) : Value := match k with
  | 0 => .int (S.1 c j)
  | 1 => .long (S.2.1 c j)
  | 2 => .ref (ad (S.2.2 c))
  | k + 3 => .ref (ad k)
def x_fs (ad : Nat → Nat) (S : xSt) (c : Nat) : Nat → List Nat → List Value
  | _, [] => []
  | j, k :: t => x_sv ad S c j k :: x_fs ad S c (j + 1) t
def x_arr (S : xSt) (c t : Nat) : (Nat → Int32) ⊕ (Nat → Int64) ⊕ (Nat → UInt32) ⊕ (Nat → UInt64) ⊕ (Nat → Option Nat) := match t with
  | 3 => .inr (.inl (S.2.1 c))
  | _ => .inl (S.1 c)
def x_cell (ta : Nat → ClassId) (ad : Nat → Nat) (S : xSt) (c : Nat) (k : xKind) : va_E := match k with
  | .inl q => .inl (ta q.1, q.2, x_arr S c q.1)
  | .inr q => .inr (q.1, x_fs ad S c 0 q.2)
def x_W (ta : Nat → ClassId) (ad : Nat → Nat) (S : xSt) : Nat → List xKind → va_W
  | _, [] => []
  | c, k :: t => (ad c, x_cell ta ad S c k) :: x_W ta ad S (c + 1) t
abbrev x_ws (G : xG) (S : xSt) : va_W := x_W G.2.2.1 G.2.2.2.1 S 0 G.2.2.2.2.1
abbrev x_tys (G : xG) : List (ClassId × FieldType) := [(G.2.2.1 0, .int), (G.2.2.1 1, .byte), (G.2.2.1 2, .boolean), (G.2.2.1 3, .long)]
abbrev x_ad (G : xG) : Nat → Nat := G.2.2.2.1
def x_A (G : xG) : Nat → Prop := fun q => ∃ c, c < G.2.2.2.2.1.length ∧ q = G.2.2.2.1 c
def x_ok (G : xG) : Prop := (∀ i j, i < G.2.2.2.2.1.length → j < G.2.2.2.2.1.length → x_ad G i = x_ad G j → i = j) ∧ (∀ s U : State, G.2.2.2.2.2 s → s.WarmedH U.vm → va_F (x_A G) s U → G.2.2.2.2.2 U) ∧ (∀ s U : State, G.2.2.2.2.2 s → U.vm = s.vm → U.heap = s.heap → G.2.2.2.2.2 U)
def x_TT : List Cond := lw_tbl.filter goodWord
theorem x_TT_of {w : Cond} (h : w ∈ lw_tbl) (hg : goodWord w = true) : w ∈ x_TT := List.mem_filter.mpr ⟨h, hg⟩
abbrev x_wsY (Y : xY) : List Cond := Cond.code Y.1 Y.2.1 Y.2.2.1 Y.2.2.2 :: x_TT
abbrev x_room (d : Nat) : Room := { frames := d, cells := 0, slots := 0, locals := 64 * d }
def x_C (p : Program) (s : State) (m : MethodId) (args : Array Value) (meth : Method) (c : Code) (Y : xY) : Prop :=
  p.tables.exec = Jvm.exec ∧ c.code = Y.2.1 ∧ meth.sig.returnType = Y.2.2.2 ∧ c.maxLocals = Y.2.2.1 ∧ s.vm.findClass Y.1.cls = some m.cls ∧ (∀ w ∈ x_wsY Y, w.before args s = true) ∧ meth.locks = false
def x_Pre (G : xG) (S : xSt) (U : State) : Prop := x_ok G ∧ va_K G.2.1 vwCl (x_tys G) U ∧ va_P G.2.1 vwCl (x_ws G S) U.heap ∧ G.2.2.2.2.2 U
def x_Q (G : xG) (K : Option Value → xSt → Prop) : Array Value → State → Outcome → State → Prop := fun _ st oc t => (∃ (r : Option Value) (S : xSt), oc = .returned r ∧ K r S ∧ va_P G.2.1 vwCl (x_ws G S) t.heap) ∧ va_F (x_A G) st t
def E (G : xG) (d : Nat) (Y : xY) (as : List Value) (S : xSt) (K : Option Value → xSt → Prop) : Prop :=
  Met G.1 Y.1 (x_wsY Y) (x_room d) (va_Pc as (x_Pre G S)) (x_Q G K) 0 0 (x_A G)
def X (G : xG) (d : Nat) (Y : xY) (pc : Nat) (lv : List (Nat × Value)) (st : List Value) (S : xSt) (K : Option Value → xSt → Prop) : Prop :=
  ∀ (p : Program) (e : Env) (s : State) (m : MethodId) (args : Array Value) (below : List Frame) (meth : Method) (c : Code) (H : Heap) (locs : List Loc) (ls : Array Slot),
    x_C p s m args meth c Y → x_ok G → va_K G.2.1 vwCl (x_tys G) s → G.2.2.2.2.2 s → va_P G.2.1 vwCl (x_ws G S) H → va_S (x_A G) s.heap H locs → lv_has ls Y.2.2.1 lv →
    W p G.1 e (x_room d) s m args below meth c H locs 0 0 (MQ below (x_Q G K) args s 0 0 (x_A G)) (F0 m pc ls st)
-- an int's, a long's, no answer
abbrev kI (K : Int32 → xSt → Prop) : Option Value → xSt → Prop := fun r S => ∃ x, r = some (.int x) ∧ K x S
abbrev kL (K : Int64 → xSt → Prop) : Option Value → xSt → Prop := fun r S => ∃ x, r = some (.long x) ∧ K x S
abbrev kV (K : xSt → Prop) : Option Value → xSt → Prop := fun r S => r = none ∧ K S
-- locals
def x_get : List (Nat × Value) → Nat → Option Value
  | [], _ => none
  | q :: t, i => if q.1 = i then some q.2 else x_get t i
def x_ins (i : Nat) (v : Value) : List (Nat × Value) → List (Nat × Value)
  | [] => [(i, v)]
  | q :: t => if i < q.1 then (i, v) :: q :: t else q :: x_ins i v t
abbrev x_set (lv : List (Nat × Value)) (i : Nat) (v : Value) : List (Nat × Value) := x_ins i v (lv.filter (fun q => !(q.1 == i) && !(q.1 + 1 == i && q.2.category == 2)))
abbrev x_set2 (lv : List (Nat × Value)) (i : Nat) (v : Value) : List (Nat × Value) := x_ins i v (lv.filter (fun q => !(q.1 == i) && (!(q.1 == i + 1) && !(q.1 + 1 == i && q.2.category == 2))))
theorem x_get_mem : ∀ {lv : List (Nat × Value)} {i : Nat} {v : Value}, x_get lv i = some v → (i, v) ∈ lv
  | [], _, _, h => by simp [x_get] at h
  | q :: t, i, v, h => by
    unfold x_get at h
    by_cases e : q.1 = i
    · rw [if_pos e] at h
      obtain rfl := Option.some.inj h
      subst e
      exact List.mem_cons_self
    · rw [if_neg e] at h
      exact List.mem_cons_of_mem _ (x_get_mem h)
theorem x_get_at {ls : Array Slot} {nL : Nat} {lv : List (Nat × Value)} (h : lv_has ls nL lv) {i : Nat} {v : Value} (hk : x_get lv i = some v) : ls[i]? = some (.val v) := h.2.2 (i, v) (x_get_mem hk)
theorem x_ins_mem (i : Nat) (v : Value) : ∀ (l : List (Nat × Value)) (q : Nat × Value), q ∈ x_ins i v l → q ∈ (i, v) :: l
  | [], q, h => h
  | r :: t, q, h => by
    unfold x_ins at h
    by_cases e : i < r.1
    · rw [if_pos e] at h; exact h
    · rw [if_neg e] at h
      rcases List.mem_cons.mp h with h | h
      · subst h; exact List.mem_cons_of_mem _ List.mem_cons_self
      · rcases List.mem_cons.mp (x_ins_mem i v t q h) with h | h
        · subst h; exact List.mem_cons_self
        · exact List.mem_cons_of_mem _ (List.mem_cons_of_mem _ h)
theorem x_ins_has {ls : Array Slot} {nL i : Nat} {v : Value} {l : List (Nat × Value)} (h : lv_has ls nL ((i, v) :: l)) : lv_has ls nL (x_ins i v l) := ⟨h.1, h.2.1, fun q hq => h.2.2 q (x_ins_mem i v l q hq)⟩
-- the world as a list
theorem x_W_get (ta : Nat → ClassId) (ad : Nat → Nat) (S : xSt) : ∀ (lay : List xKind) (i c : Nat), (x_W ta ad S i lay)[c]? = (lay[c]?).map (fun k => (ad (i + c), x_cell ta ad S (i + c) k))
  | [], i, c => by simp [x_W]
  | k :: t, i, 0 => by simp [x_W]
  | k :: t, i, c + 1 => by
    show (x_W ta ad S (i + 1) t)[c]? = _
    rw [x_W_get ta ad S t (i + 1) c, show i + 1 + c = i + (c + 1) by omega]
    rfl
theorem x_ws_get {G : xG} {S : xSt} {c : Nat} {k : xKind} (h : G.2.2.2.2.1[c]? = some k) : (x_ws G S)[c]? = some (x_ad G c, x_cell G.2.2.1 (x_ad G) S c k) := by
  rw [x_W_get, h]; simp
theorem x_ws_len (G : xG) (S : xSt) : (x_ws G S).length = G.2.2.2.2.1.length := by
  have h : ∀ (lay : List xKind) (i : Nat), (x_W G.2.2.1 G.2.2.2.1 S i lay).length = lay.length := by
    intro lay
    induction lay with
    | nil => intro i; rfl
    | cons k t ih => intro i; show (x_W _ _ S (i + 1) t).length + 1 = t.length + 1; rw [ih]
  exact h _ 0
theorem x_D {G : xG} (hG : x_ok G) (S : xSt) : va_D (x_A G) (x_ws G S) := by
  have at' : ∀ (i : Nat) (q : Nat × va_E), (x_ws G S)[i]? = some q → i < G.2.2.2.2.1.length ∧ q.1 = x_ad G i := by
    intro i q h
    rw [x_W_get] at h
    cases e : G.2.2.2.2.1[i]? with
    | none => rw [e] at h; cases h
    | some k =>
      rw [e] at h
      obtain rfl := Option.some.inj h
      exact ⟨(List.getElem?_eq_some_iff.mp e).1, by simp⟩
  refine ⟨fun i j p q hp hq he => ?_, fun k q h => ?_⟩
  · obtain ⟨a1, a2⟩ := at' i p hp
    obtain ⟨b1, b2⟩ := at' j q hq
    exact hG.1 i j a1 b1 (by rw [← a2, ← b2]; exact he)
  · obtain ⟨a1, a2⟩ := at' k q h
    exact ⟨k, a1, a2⟩
theorem x_ws_set {G : xG} {S S' : xSt} {c : Nat} {k : xKind} (h : G.2.2.2.2.1[c]? = some k) (ho : ∀ c', c' ≠ c → S'.1 c' = S.1 c' ∧ S'.2.1 c' = S.2.1 c' ∧ S'.2.2 c' = S.2.2 c') : (x_ws G S).set c (x_ad G c, x_cell G.2.2.1 (x_ad G) S' c k) = x_ws G S' := by
  have hfs : ∀ (c' : Nat), c' ≠ c → ∀ (l : List Nat) (j : Nat), x_fs (x_ad G) S' c' j l = x_fs (x_ad G) S c' j l := by
    intro c' hc l
    obtain ⟨a1, a2, a3⟩ := ho c' hc
    induction l with
    | nil => intro j; rfl
    | cons q t ih =>
      intro j
      show x_sv _ S' c' j q :: _ = x_sv _ S c' j q :: _
      rw [ih]
      unfold x_sv
      rw [a1, a2, a3]
  apply List.ext_getElem?
  intro i
  rw [List.getElem?_set, x_W_get, x_W_get]
  by_cases e : c = i
  · subst e
    have hl : c < (x_ws G S).length := by rw [x_ws_len]; exact (List.getElem?_eq_some_iff.mp h).1
    rw [if_pos rfl, if_pos hl, h]; simp
  · rw [if_neg e]
    cases hh : G.2.2.2.2.1[i]? with
    | none => rfl
    | some k' =>
      simp only [Option.map_some, Nat.zero_add]
      obtain ⟨a1, a2, a3⟩ := ho i (fun q => e q.symm)
      congr 2
      cases k' with
      | inl q =>
        show Sum.inl (_, _, x_arr S i q.1) = Sum.inl (_, _, x_arr S' i q.1)
        unfold x_arr
        rw [a1, a2]
      | inr q => show Sum.inr (_, x_fs _ S i 0 q.2) = Sum.inr (_, x_fs _ S' i 0 q.2); rw [hfs i (fun q => e q.symm)]
theorem x_putI_o (S : xSt) (c j : Nat) (v : Int32) : ∀ c', c' ≠ c → (x_putI S c j v).1 c' = S.1 c' ∧ (x_putI S c j v).2.1 c' = S.2.1 c' ∧ (x_putI S c j v).2.2 c' = S.2.2 c' := fun c' h => ⟨if_neg h, rfl, rfl⟩
theorem x_putL_o (S : xSt) (c j : Nat) (v : Int64) : ∀ c', c' ≠ c → (x_putL S c j v).1 c' = S.1 c' ∧ (x_putL S c j v).2.1 c' = S.2.1 c' ∧ (x_putL S c j v).2.2 c' = S.2.2 c' := fun c' h => ⟨rfl, if_neg h, rfl⟩
theorem x_putR_o (S : xSt) (c r : Nat) : ∀ c', c' ≠ c → (x_putR S c r).1 c' = S.1 c' ∧ (x_putR S c r).2.1 c' = S.2.1 c' ∧ (x_putR S c r).2.2 c' = S.2.2 c' := fun c' h => ⟨rfl, rfl, if_neg h⟩
theorem x_putA_o (S : xSt) (c : Nat) (f : Nat → Int32) : ∀ c', c' ≠ c → (x_putA S c f).1 c' = S.1 c' ∧ (x_putA S c f).2.1 c' = S.2.1 c' ∧ (x_putA S c f).2.2 c' = S.2.2 c' := fun c' h => ⟨if_neg h, rfl, rfl⟩
theorem x_fs_get (ad : Nat → Nat) (S : xSt) (c : Nat) : ∀ (l : List Nat) (j k : Nat), (x_fs ad S c j l)[k]? = (l[k]?).map (fun q => x_sv ad S c (j + k) q)
  | [], j, k => by simp [x_fs]
  | q :: t, j, 0 => by simp [x_fs]
  | q :: t, j, k + 1 => by
    show (x_fs ad S c (j + 1) t)[k]? = _
    rw [x_fs_get ad S c t (j + 1) k, show j + 1 + k = j + (k + 1) by omega]
    rfl
theorem x_fs_set {ad : Nat → Nat} {S S' : xSt} {c : Nat} {l : List Nat} {k q : Nat} {v : Value} (hk : l[k]? = some q) (hv : x_sv ad S' c k q = v) (ho : ∀ j q', l[j]? = some q' → j ≠ k → x_sv ad S' c j q' = x_sv ad S c j q') : (x_fs ad S c 0 l).set k v = x_fs ad S' c 0 l := by
  apply List.ext_getElem?
  intro i
  have hlen : (x_fs ad S c 0 l).length = l.length := by
    have h : ∀ (l : List Nat) (j : Nat), (x_fs ad S c j l).length = l.length := by
      intro l
      induction l with
      | nil => intro j; rfl
      | cons a t ih => intro j; show (x_fs ad S c (j + 1) t).length + 1 = t.length + 1; rw [ih]
    exact h l 0
  rw [List.getElem?_set, x_fs_get, x_fs_get]
  by_cases e : k = i
  · subst e
    rw [if_pos rfl, if_pos (by rw [hlen]; exact (List.getElem?_eq_some_iff.mp hk).1), hk]
    simp [hv]
  · rw [if_neg e]
    cases hh : l[i]? with
    | none => rfl
    | some q' => simp only [Option.map_some, Nat.zero_add]; rw [ho i q' hh (fun z => e z.symm)]
theorem x_fs_len (ad : Nat → Nat) (S : xSt) (c : Nat) : ∀ (l : List Nat) (j : Nat), (x_fs ad S c j l).length = l.length
  | [], _ => rfl
  | a :: t, j => by show (x_fs ad S c (j + 1) t).length + 1 = t.length + 1; rw [x_fs_len ad S c t (j + 1)]
-- decoded rows
def x_dec (cc : ByteArray) (l : List (Nat × Instr × Nat)) : Bool := l.all (fun e => decide (decode cc e.1 = .ok e.2))
theorem x_at {cc : ByteArray} {l : List (Nat × Instr × Nat)} (h : x_dec cc l = true) (k : Nat) {pc : Nat} {i : Instr} {n : Nat} (hk : l[k]? = some (pc, i, n)) : decode cc pc = .ok (i, n) := by
  have h1 := List.all_eq_true.mp h (pc, i, n) (List.mem_of_getElem? hk)
  simp only [decide_eq_true_eq] at h1
  exact h1
-- a class as the words have it
def x_Cls (ci : Nat) (C : String) (T : u_T) (N : Nat) (ty : Nat → FieldType) : Prop := vwCl[ci]? = some (C, T, N) ∧ (∀ w ∈ u_ws C T N, w ∈ x_TT) ∧ (∀ k, k < N → parseFieldDescriptor (T k).2.2.1 = some (ty k)) ∧ ∀ a, a < N → ∀ b, b < N → a ≠ b → (T a).2.1 ≠ (T b).2.1
end
section
variable {G : xG} {d : Nat} {Y : xY} {pc : Nat} {lv : List (Nat × Value)} {st : List Value} {S : xSt} {K : Option Value → xSt → Prop}

theorem x_iconst {n : Int} {v : Int32} (hd : decode Y.2.1 pc = .ok (.iconst n, 1)) (hv : Int32.ofInt n = v) (h : X G d Y (pc + 1) lv (.int v :: st) S K) : X G d Y pc lv (st) S K := by
  intro p e s m args below meth c H locs ls C hG hK hZ hP hS hl
  exact lv_iconst C.1 C.2.1 hd hv (h p e s m args below meth c H locs ls C hG hK hZ hP hS hl)
theorem x_bipush {n : Int} {v : Int32} (hd : decode Y.2.1 pc = .ok (.bipush n, 2)) (hv : (Int8.ofInt n).toInt32 = v) (h : X G d Y (pc + 2) lv (.int v :: st) S K) : X G d Y pc lv (st) S K := by
  intro p e s m args below meth c H locs ls C hG hK hZ hP hS hl
  exact lv_bipush C.1 C.2.1 hd hv (h p e s m args below meth c H locs ls C hG hK hZ hP hS hl)
theorem x_sipush {n : Int} {v : Int32} (hd : decode Y.2.1 pc = .ok (.sipush n, 3)) (hv : (Int16.ofInt n).toInt32 = v) (h : X G d Y (pc + 3) lv (.int v :: st) S K) : X G d Y pc lv (st) S K := by
  intro p e s m args below meth c H locs ls C hG hK hZ hP hS hl
  exact lv_sipush C.1 C.2.1 hd hv (h p e s m args below meth c H locs ls C hG hK hZ hP hS hl)
theorem x_lconst {n : Fin 2} {v : Int64} (hd : decode Y.2.1 pc = .ok (.lconst n, 1)) (hv : Int64.ofNat (n : Nat) = v) (h : X G d Y (pc + 1) lv (.long v :: st) S K) : X G d Y pc lv (st) S K := by
  intro p e s m args below meth c H locs ls C hG hK hZ hP hS hl
  exact lv_lconst C.1 C.2.1 hd hv (h p e s m args below meth c H locs ls C hG hK hZ hP hS hl)
theorem x_iload_n {k : Fin 4} {i : Nat} {x : Int32} (hd : decode Y.2.1 pc = .ok (.iload_n k, 1)) (hi : (k : Nat) = i) (hx : x_get lv i = some (.int x)) (h : X G d Y (pc + 1) lv (.int x :: st) S K) : X G d Y pc lv (st) S K := by
  intro p e s m args below meth c H locs ls C hG hK hZ hP hS hl
  exact lv_iload_n C.1 C.2.1 hd hi (x_get_at hl hx) (h p e s m args below meth c H locs ls C hG hK hZ hP hS hl)
theorem x_iload {i : Nat} {x : Int32} (hd : decode Y.2.1 pc = .ok (.iload i, 2)) (hx : x_get lv i = some (.int x)) (h : X G d Y (pc + 2) lv (.int x :: st) S K) : X G d Y pc lv (st) S K := by
  intro p e s m args below meth c H locs ls C hG hK hZ hP hS hl
  exact lv_iload C.1 C.2.1 hd (x_get_at hl hx) (h p e s m args below meth c H locs ls C hG hK hZ hP hS hl)
theorem x_lload_n {k : Fin 4} {i : Nat} {x : Int64} (hd : decode Y.2.1 pc = .ok (.lload_n k, 1)) (hi : (k : Nat) = i) (hx : x_get lv i = some (.long x)) (h : X G d Y (pc + 1) lv (.long x :: st) S K) : X G d Y pc lv (st) S K := by
  intro p e s m args below meth c H locs ls C hG hK hZ hP hS hl
  exact lv_lload_n C.1 C.2.1 hd hi (x_get_at hl hx) (h p e s m args below meth c H locs ls C hG hK hZ hP hS hl)
theorem x_lload {i : Nat} {x : Int64} (hd : decode Y.2.1 pc = .ok (.lload i, 2)) (hx : x_get lv i = some (.long x)) (h : X G d Y (pc + 2) lv (.long x :: st) S K) : X G d Y pc lv (st) S K := by
  intro p e s m args below meth c H locs ls C hG hK hZ hP hS hl
  exact lv_lload C.1 C.2.1 hd (x_get_at hl hx) (h p e s m args below meth c H locs ls C hG hK hZ hP hS hl)
theorem x_aload_n {k : Fin 4} {i : Nat} {x : Nat} (hd : decode Y.2.1 pc = .ok (.aload_n k, 1)) (hi : (k : Nat) = i) (hx : x_get lv i = some (.ref x)) (h : X G d Y (pc + 1) lv (.ref x :: st) S K) : X G d Y pc lv (st) S K := by
  intro p e s m args below meth c H locs ls C hG hK hZ hP hS hl
  exact lv_aload_n C.1 C.2.1 hd hi (x_get_at hl hx) (h p e s m args below meth c H locs ls C hG hK hZ hP hS hl)
theorem x_aload {i : Nat} {x : Nat} (hd : decode Y.2.1 pc = .ok (.aload i, 2)) (hx : x_get lv i = some (.ref x)) (h : X G d Y (pc + 2) lv (.ref x :: st) S K) : X G d Y pc lv (st) S K := by
  intro p e s m args below meth c H locs ls C hG hK hZ hP hS hl
  exact lv_aload C.1 C.2.1 hd (x_get_at hl hx) (h p e s m args below meth c H locs ls C hG hK hZ hP hS hl)
theorem x_istore_n {k : Fin 4} {i : Nat} {x : Int32} (hd : decode Y.2.1 pc = .ok (.istore_n k, 1)) (hi : (k : Nat) = i) (hn : i < Y.2.2.1) (h : X G d Y (pc + 1) (x_set lv i (.int x)) st S K) : X G d Y pc lv (.int x :: st) S K := by
  intro p e s m args below meth c H locs ls C hG hK hZ hP hS hl
  exact lv_istore_n C.1 C.2.1 hd hi hl hn rfl (fun ls hl => h p e s m args below meth c H locs ls C hG hK hZ hP hS (x_ins_has hl))
theorem x_istore {i : Nat} {x : Int32} (hd : decode Y.2.1 pc = .ok (.istore i, 2)) (hn : i < Y.2.2.1) (h : X G d Y (pc + 2) (x_set lv i (.int x)) st S K) : X G d Y pc lv (.int x :: st) S K := by
  intro p e s m args below meth c H locs ls C hG hK hZ hP hS hl
  exact lv_istore C.1 C.2.1 hd hl hn rfl (fun ls hl => h p e s m args below meth c H locs ls C hG hK hZ hP hS (x_ins_has hl))
theorem x_lstore_n {k : Fin 4} {i : Nat} {x : Int64} (hd : decode Y.2.1 pc = .ok (.lstore_n k, 1)) (hi : (k : Nat) = i) (hn : i + 1 < Y.2.2.1) (h : X G d Y (pc + 1) (x_set2 lv i (.long x)) st S K) : X G d Y pc lv (.long x :: st) S K := by
  intro p e s m args below meth c H locs ls C hG hK hZ hP hS hl
  exact lv_lstore_n C.1 C.2.1 hd hi hl hn rfl (fun ls hl => h p e s m args below meth c H locs ls C hG hK hZ hP hS (x_ins_has hl))
theorem x_lstore {i : Nat} {x : Int64} (hd : decode Y.2.1 pc = .ok (.lstore i, 2)) (hn : i + 1 < Y.2.2.1) (h : X G d Y (pc + 2) (x_set2 lv i (.long x)) st S K) : X G d Y pc lv (.long x :: st) S K := by
  intro p e s m args below meth c H locs ls C hG hK hZ hP hS hl
  exact lv_lstore C.1 C.2.1 hd hl hn rfl (fun ls hl => h p e s m args below meth c H locs ls C hG hK hZ hP hS (x_ins_has hl))
theorem x_astore_n {k : Fin 4} {i : Nat} {x : Nat} (hd : decode Y.2.1 pc = .ok (.astore_n k, 1)) (hi : (k : Nat) = i) (hn : i < Y.2.2.1) (h : X G d Y (pc + 1) (x_set lv i (.ref x)) st S K) : X G d Y pc lv (.ref x :: st) S K := by
  intro p e s m args below meth c H locs ls C hG hK hZ hP hS hl
  exact lv_astore_n C.1 C.2.1 hd hi hl hn rfl (fun ls hl => h p e s m args below meth c H locs ls C hG hK hZ hP hS (x_ins_has hl))
theorem x_astore {i : Nat} {x : Nat} (hd : decode Y.2.1 pc = .ok (.astore i, 2)) (hn : i < Y.2.2.1) (h : X G d Y (pc + 2) (x_set lv i (.ref x)) st S K) : X G d Y pc lv (.ref x :: st) S K := by
  intro p e s m args below meth c H locs ls C hG hK hZ hP hS hl
  exact lv_astore C.1 C.2.1 hd hl hn rfl (fun ls hl => h p e s m args below meth c H locs ls C hG hK hZ hP hS (x_ins_has hl))
theorem x_iinc {i : Nat} {n : Int} {x v : Int32} (hd : decode Y.2.1 pc = .ok (.iinc i n, 3)) (hx : x_get lv i = some (.int x)) (hv : x + Int32.ofInt n = v) (hn : i < Y.2.2.1) (h : X G d Y (pc + 3) (x_set lv i (.int v)) st S K) : X G d Y pc lv st S K := by
  intro p e s m args below meth c H locs ls C hG hK hZ hP hS hl
  obtain ⟨k, hk⟩ := List.getElem?_of_mem (x_get_mem hx)
  exact lv_iinc C.1 C.2.1 hd hl (k := k) hk hv hn rfl (fun ls hl => h p e s m args below meth c H locs ls C hG hK hZ hP hS (x_ins_has hl))
theorem x_iadd {x y : Int32} (hd : decode Y.2.1 pc = .ok (.iadd, 1)) (h : X G d Y (pc + 1) lv (.int (x + y) :: st) S K) : X G d Y pc lv (.int y :: .int x :: st) S K := by
  intro p e s m args below meth c H locs ls C hG hK hZ hP hS hl
  exact lv_iadd C.1 C.2.1 hd (h p e s m args below meth c H locs ls C hG hK hZ hP hS hl)
theorem x_isub {x y : Int32} (hd : decode Y.2.1 pc = .ok (.isub, 1)) (h : X G d Y (pc + 1) lv (.int (x - y) :: st) S K) : X G d Y pc lv (.int y :: .int x :: st) S K := by
  intro p e s m args below meth c H locs ls C hG hK hZ hP hS hl
  exact lv_isub C.1 C.2.1 hd (h p e s m args below meth c H locs ls C hG hK hZ hP hS hl)
theorem x_imul {x y : Int32} (hd : decode Y.2.1 pc = .ok (.imul, 1)) (h : X G d Y (pc + 1) lv (.int (x * y) :: st) S K) : X G d Y pc lv (.int y :: .int x :: st) S K := by
  intro p e s m args below meth c H locs ls C hG hK hZ hP hS hl
  exact lv_imul C.1 C.2.1 hd (h p e s m args below meth c H locs ls C hG hK hZ hP hS hl)
theorem x_iand {x y : Int32} (hd : decode Y.2.1 pc = .ok (.iand, 1)) (h : X G d Y (pc + 1) lv (.int (x &&& y) :: st) S K) : X G d Y pc lv (.int y :: .int x :: st) S K := by
  intro p e s m args below meth c H locs ls C hG hK hZ hP hS hl
  exact lv_iand C.1 C.2.1 hd (h p e s m args below meth c H locs ls C hG hK hZ hP hS hl)
theorem x_ior {x y : Int32} (hd : decode Y.2.1 pc = .ok (.ior, 1)) (h : X G d Y (pc + 1) lv (.int (x ||| y) :: st) S K) : X G d Y pc lv (.int y :: .int x :: st) S K := by
  intro p e s m args below meth c H locs ls C hG hK hZ hP hS hl
  exact lv_ior C.1 C.2.1 hd (h p e s m args below meth c H locs ls C hG hK hZ hP hS hl)
theorem x_ixor {x y : Int32} (hd : decode Y.2.1 pc = .ok (.ixor, 1)) (h : X G d Y (pc + 1) lv (.int (x ^^^ y) :: st) S K) : X G d Y pc lv (.int y :: .int x :: st) S K := by
  intro p e s m args below meth c H locs ls C hG hK hZ hP hS hl
  exact lv_ixor C.1 C.2.1 hd (h p e s m args below meth c H locs ls C hG hK hZ hP hS hl)
theorem x_ishl {x y : Int32} (hd : decode Y.2.1 pc = .ok (.ishl, 1)) (h : X G d Y (pc + 1) lv (.int (x <<< (y &&& 31)) :: st) S K) : X G d Y pc lv (.int y :: .int x :: st) S K := by
  intro p e s m args below meth c H locs ls C hG hK hZ hP hS hl
  exact lv_ishl C.1 C.2.1 hd (h p e s m args below meth c H locs ls C hG hK hZ hP hS hl)
theorem x_ishr {x y : Int32} (hd : decode Y.2.1 pc = .ok (.ishr, 1)) (h : X G d Y (pc + 1) lv (.int (x >>> (y &&& 31)) :: st) S K) : X G d Y pc lv (.int y :: .int x :: st) S K := by
  intro p e s m args below meth c H locs ls C hG hK hZ hP hS hl
  exact lv_ishr C.1 C.2.1 hd (h p e s m args below meth c H locs ls C hG hK hZ hP hS hl)
theorem x_idiv {x y : Int32} (hd : decode Y.2.1 pc = .ok (.idiv, 1)) (hne : ¬ y = 0) (h : X G d Y (pc + 1) lv (.int (x / y) :: st) S K) : X G d Y pc lv (.int y :: .int x :: st) S K := by
  intro p e s m args below meth c H locs ls C hG hK hZ hP hS hl
  exact lv_idiv C.1 C.2.1 hd hne (h p e s m args below meth c H locs ls C hG hK hZ hP hS hl)
theorem x_irem {x y : Int32} (hd : decode Y.2.1 pc = .ok (.irem, 1)) (hne : ¬ y = 0) (h : X G d Y (pc + 1) lv (.int (x - x / y * y) :: st) S K) : X G d Y pc lv (.int y :: .int x :: st) S K := by
  intro p e s m args below meth c H locs ls C hG hK hZ hP hS hl
  exact lv_irem C.1 C.2.1 hd hne (h p e s m args below meth c H locs ls C hG hK hZ hP hS hl)
theorem x_ineg {x : Int32} (hd : decode Y.2.1 pc = .ok (.ineg, 1)) (h : X G d Y (pc + 1) lv (.int (-x) :: st) S K) : X G d Y pc lv (.int x :: st) S K := by
  intro p e s m args below meth c H locs ls C hG hK hZ hP hS hl
  exact lv_ineg C.1 C.2.1 hd (h p e s m args below meth c H locs ls C hG hK hZ hP hS hl)
theorem x_iushr {x y : Int32} (hd : decode Y.2.1 pc = .ok (.iushr, 1)) (h : X G d Y (pc + 1) lv (.int (x.toUInt32 >>> (y.toUInt32 &&& Int32.toUInt32 31)).toInt32 :: st) S K) : X G d Y pc lv (.int y :: .int x :: st) S K := by
  intro p e s m args below meth c H locs ls C hG hK hZ hP hS hl
  exact lv_iushr C.1 C.2.1 hd rfl (h p e s m args below meth c H locs ls C hG hK hZ hP hS hl)
theorem x_ladd {x y : Int64} (hd : decode Y.2.1 pc = .ok (.ladd, 1)) (h : X G d Y (pc + 1) lv (.long (x + y) :: st) S K) : X G d Y pc lv (.long y :: .long x :: st) S K := by
  intro p e s m args below meth c H locs ls C hG hK hZ hP hS hl
  exact lv_ladd C.1 C.2.1 hd (h p e s m args below meth c H locs ls C hG hK hZ hP hS hl)
theorem x_lsub {x y : Int64} (hd : decode Y.2.1 pc = .ok (.lsub, 1)) (h : X G d Y (pc + 1) lv (.long (x - y) :: st) S K) : X G d Y pc lv (.long y :: .long x :: st) S K := by
  intro p e s m args below meth c H locs ls C hG hK hZ hP hS hl
  exact lv_lsub C.1 C.2.1 hd (h p e s m args below meth c H locs ls C hG hK hZ hP hS hl)
theorem x_lmul {x y : Int64} (hd : decode Y.2.1 pc = .ok (.lmul, 1)) (h : X G d Y (pc + 1) lv (.long (x * y) :: st) S K) : X G d Y pc lv (.long y :: .long x :: st) S K := by
  intro p e s m args below meth c H locs ls C hG hK hZ hP hS hl
  exact lv_lmul C.1 C.2.1 hd (h p e s m args below meth c H locs ls C hG hK hZ hP hS hl)
theorem x_land {x y : Int64} (hd : decode Y.2.1 pc = .ok (.land, 1)) (h : X G d Y (pc + 1) lv (.long (x &&& y) :: st) S K) : X G d Y pc lv (.long y :: .long x :: st) S K := by
  intro p e s m args below meth c H locs ls C hG hK hZ hP hS hl
  exact lv_land C.1 C.2.1 hd (h p e s m args below meth c H locs ls C hG hK hZ hP hS hl)
theorem x_lor {x y : Int64} (hd : decode Y.2.1 pc = .ok (.lor, 1)) (h : X G d Y (pc + 1) lv (.long (x ||| y) :: st) S K) : X G d Y pc lv (.long y :: .long x :: st) S K := by
  intro p e s m args below meth c H locs ls C hG hK hZ hP hS hl
  exact lv_lor C.1 C.2.1 hd (h p e s m args below meth c H locs ls C hG hK hZ hP hS hl)
theorem x_ldiv {x y : Int64} (hd : decode Y.2.1 pc = .ok (.ldiv, 1)) (hne : ¬ y = 0) (h : X G d Y (pc + 1) lv (.long (x / y) :: st) S K) : X G d Y pc lv (.long y :: .long x :: st) S K := by
  intro p e s m args below meth c H locs ls C hG hK hZ hP hS hl
  exact lv_ldiv C.1 C.2.1 hd hne (h p e s m args below meth c H locs ls C hG hK hZ hP hS hl)
theorem x_lrem {x y : Int64} (hd : decode Y.2.1 pc = .ok (.lrem, 1)) (hne : ¬ y = 0) (h : X G d Y (pc + 1) lv (.long (x - x / y * y) :: st) S K) : X G d Y pc lv (.long y :: .long x :: st) S K := by
  intro p e s m args below meth c H locs ls C hG hK hZ hP hS hl
  exact lv_lrem C.1 C.2.1 hd hne (h p e s m args below meth c H locs ls C hG hK hZ hP hS hl)
theorem x_lshl {x : Int64} {y : Int32} (hd : decode Y.2.1 pc = .ok (.lshl, 1)) (h : X G d Y (pc + 1) lv (.long (x <<< (y.toInt64 &&& 63)) :: st) S K) : X G d Y pc lv (.int y :: .long x :: st) S K := by
  intro p e s m args below meth c H locs ls C hG hK hZ hP hS hl
  exact lv_lshl C.1 C.2.1 hd rfl (h p e s m args below meth c H locs ls C hG hK hZ hP hS hl)
theorem x_lshr {x : Int64} {y : Int32} (hd : decode Y.2.1 pc = .ok (.lshr, 1)) (h : X G d Y (pc + 1) lv (.long (x >>> (y.toInt64 &&& 63)) :: st) S K) : X G d Y pc lv (.int y :: .long x :: st) S K := by
  intro p e s m args below meth c H locs ls C hG hK hZ hP hS hl
  exact lv_lshr C.1 C.2.1 hd rfl (h p e s m args below meth c H locs ls C hG hK hZ hP hS hl)
theorem x_lcmp {x y : Int64} (hd : decode Y.2.1 pc = .ok (.lcmp, 1)) (h : X G d Y (pc + 1) lv (.int (lg_cmp x y) :: st) S K) : X G d Y pc lv (.long y :: .long x :: st) S K := by
  intro p e s m args below meth c H locs ls C hG hK hZ hP hS hl
  exact W.lcmp C.1 C.2.1 hd (h p e s m args below meth c H locs ls C hG hK hZ hP hS hl)
theorem x_i2l {x : Int32} (hd : decode Y.2.1 pc = .ok (.i2l, 1)) (h : X G d Y (pc + 1) lv (.long x.toInt64 :: st) S K) : X G d Y pc lv (.int x :: st) S K := by
  intro p e s m args below meth c H locs ls C hG hK hZ hP hS hl
  exact lv_i2l C.1 C.2.1 hd rfl (h p e s m args below meth c H locs ls C hG hK hZ hP hS hl)
theorem x_l2i {x : Int64} (hd : decode Y.2.1 pc = .ok (.l2i, 1)) (h : X G d Y (pc + 1) lv (.int x.toInt32 :: st) S K) : X G d Y pc lv (.long x :: st) S K := by
  intro p e s m args below meth c H locs ls C hG hK hZ hP hS hl
  exact lv_l2i C.1 C.2.1 hd rfl (h p e s m args below meth c H locs ls C hG hK hZ hP hS hl)
theorem x_i2b {x : Int32} (hd : decode Y.2.1 pc = .ok (.i2b, 1)) (h : X G d Y (pc + 1) lv (.int x.toInt8.toInt32 :: st) S K) : X G d Y pc lv (.int x :: st) S K := by
  intro p e s m args below meth c H locs ls C hG hK hZ hP hS hl
  exact lv_i2b C.1 C.2.1 hd rfl (h p e s m args below meth c H locs ls C hG hK hZ hP hS hl)
theorem x_i2c {x : Int32} (hd : decode Y.2.1 pc = .ok (.i2c, 1)) (h : X G d Y (pc + 1) lv (.int (x.toUInt32 % 65536).toInt32 :: st) S K) : X G d Y pc lv (.int x :: st) S K := by
  intro p e s m args below meth c H locs ls C hG hK hZ hP hS hl
  exact lv_i2c C.1 C.2.1 hd rfl (h p e s m args below meth c H locs ls C hG hK hZ hP hS hl)
theorem x_dup {v : Value} (hd : decode Y.2.1 pc = .ok (.dup, 1)) (hc : v.category = 1) (h : X G d Y (pc + 1) lv (v :: v :: st) S K) : X G d Y pc lv (v :: st) S K := by
  intro p e s m args below meth c H locs ls C hG hK hZ hP hS hl
  exact lv_dup C.1 C.2.1 hd hc (h p e s m args below meth c H locs ls C hG hK hZ hP hS hl)
theorem x_dup2 {v u : Value} (hd : decode Y.2.1 pc = .ok (.dup2, 1)) (hc : v.category = 1) (hu : u.category = 1) (h : X G d Y (pc + 1) lv (v :: u :: v :: u :: st) S K) : X G d Y pc lv (v :: u :: st) S K := by
  intro p e s m args below meth c H locs ls C hG hK hZ hP hS hl
  exact lv_dup2_11 C.1 C.2.1 hd hc hu (h p e s m args below meth c H locs ls C hG hK hZ hP hS hl)
theorem x_dup_x1 {v u : Value} (hd : decode Y.2.1 pc = .ok (.dup_x1, 1)) (hc : v.category = 1) (hu : u.category = 1) (h : X G d Y (pc + 1) lv (v :: u :: v :: st) S K) : X G d Y pc lv (v :: u :: st) S K := by
  intro p e s m args below meth c H locs ls C hG hK hZ hP hS hl
  exact lv_dup_x1 C.1 C.2.1 hd hc hu (h p e s m args below meth c H locs ls C hG hK hZ hP hS hl)
theorem x_pop {v : Value} (hd : decode Y.2.1 pc = .ok (.pop, 1)) (hc : v.category = 1) (h : X G d Y (pc + 1) lv (st) S K) : X G d Y pc lv (v :: st) S K := by
  intro p e s m args below meth c H locs ls C hG hK hZ hP hS hl
  exact lv_pop C.1 C.2.1 hd hc (h p e s m args below meth c H locs ls C hG hK hZ hP hS hl)
theorem x_if_eq {x : Int32} {off : Int} (tgt : Nat) (hd : decode Y.2.1 pc = .ok (.ifCond .eq off, 3)) (hg : (pc : Int) + off = (tgt : Int)) (ht : x = 0 → X G d Y tgt lv st S K) (hf : ¬ x = 0 → X G d Y (pc + 3) lv st S K) : X G d Y pc lv (.int x :: st) S K := by
  intro p e s m args below meth c H locs ls C hG hK hZ hP hS hl
  exact lv_if_eq C.1 C.2.1 hd hg (fun q => ht q p e s m args below meth c H locs ls C hG hK hZ hP hS hl) (fun q => hf q p e s m args below meth c H locs ls C hG hK hZ hP hS hl)
theorem x_ic_eq {x y : Int32} {off : Int} (tgt : Nat) (hd : decode Y.2.1 pc = .ok (.if_icmp .eq off, 3)) (hg : (pc : Int) + off = (tgt : Int)) (ht : x = y → X G d Y tgt lv st S K) (hf : ¬ x = y → X G d Y (pc + 3) lv st S K) : X G d Y pc lv (.int y :: .int x :: st) S K := by
  intro p e s m args below meth c H locs ls C hG hK hZ hP hS hl
  exact lv_icmp_eq C.1 C.2.1 hd hg (fun q => ht q p e s m args below meth c H locs ls C hG hK hZ hP hS hl) (fun q => hf q p e s m args below meth c H locs ls C hG hK hZ hP hS hl)
theorem x_if_ne {x : Int32} {off : Int} (tgt : Nat) (hd : decode Y.2.1 pc = .ok (.ifCond .ne off, 3)) (hg : (pc : Int) + off = (tgt : Int)) (ht : ¬ x = 0 → X G d Y tgt lv st S K) (hf : x = 0 → X G d Y (pc + 3) lv st S K) : X G d Y pc lv (.int x :: st) S K := by
  intro p e s m args below meth c H locs ls C hG hK hZ hP hS hl
  exact lv_if_ne C.1 C.2.1 hd hg (fun q => ht q p e s m args below meth c H locs ls C hG hK hZ hP hS hl) (fun q => hf q p e s m args below meth c H locs ls C hG hK hZ hP hS hl)
theorem x_ic_ne {x y : Int32} {off : Int} (tgt : Nat) (hd : decode Y.2.1 pc = .ok (.if_icmp .ne off, 3)) (hg : (pc : Int) + off = (tgt : Int)) (ht : ¬ x = y → X G d Y tgt lv st S K) (hf : x = y → X G d Y (pc + 3) lv st S K) : X G d Y pc lv (.int y :: .int x :: st) S K := by
  intro p e s m args below meth c H locs ls C hG hK hZ hP hS hl
  exact lv_icmp_ne C.1 C.2.1 hd hg (fun q => ht q p e s m args below meth c H locs ls C hG hK hZ hP hS hl) (fun q => hf q p e s m args below meth c H locs ls C hG hK hZ hP hS hl)
theorem x_if_lt {x : Int32} {off : Int} (tgt : Nat) (hd : decode Y.2.1 pc = .ok (.ifCond .lt off, 3)) (hg : (pc : Int) + off = (tgt : Int)) (ht : x < 0 → X G d Y tgt lv st S K) (hf : ¬ x < 0 → X G d Y (pc + 3) lv st S K) : X G d Y pc lv (.int x :: st) S K := by
  intro p e s m args below meth c H locs ls C hG hK hZ hP hS hl
  exact lv_if_lt C.1 C.2.1 hd hg (fun q => ht q p e s m args below meth c H locs ls C hG hK hZ hP hS hl) (fun q => hf q p e s m args below meth c H locs ls C hG hK hZ hP hS hl)
theorem x_ic_lt {x y : Int32} {off : Int} (tgt : Nat) (hd : decode Y.2.1 pc = .ok (.if_icmp .lt off, 3)) (hg : (pc : Int) + off = (tgt : Int)) (ht : x < y → X G d Y tgt lv st S K) (hf : ¬ x < y → X G d Y (pc + 3) lv st S K) : X G d Y pc lv (.int y :: .int x :: st) S K := by
  intro p e s m args below meth c H locs ls C hG hK hZ hP hS hl
  exact lv_icmp_lt C.1 C.2.1 hd hg (fun q => ht q p e s m args below meth c H locs ls C hG hK hZ hP hS hl) (fun q => hf q p e s m args below meth c H locs ls C hG hK hZ hP hS hl)
theorem x_if_ge {x : Int32} {off : Int} (tgt : Nat) (hd : decode Y.2.1 pc = .ok (.ifCond .ge off, 3)) (hg : (pc : Int) + off = (tgt : Int)) (ht : 0 ≤ x → X G d Y tgt lv st S K) (hf : ¬ 0 ≤ x → X G d Y (pc + 3) lv st S K) : X G d Y pc lv (.int x :: st) S K := by
  intro p e s m args below meth c H locs ls C hG hK hZ hP hS hl
  exact lv_if_ge C.1 C.2.1 hd hg (fun q => ht q p e s m args below meth c H locs ls C hG hK hZ hP hS hl) (fun q => hf q p e s m args below meth c H locs ls C hG hK hZ hP hS hl)
theorem x_ic_ge {x y : Int32} {off : Int} (tgt : Nat) (hd : decode Y.2.1 pc = .ok (.if_icmp .ge off, 3)) (hg : (pc : Int) + off = (tgt : Int)) (ht : y ≤ x → X G d Y tgt lv st S K) (hf : ¬ y ≤ x → X G d Y (pc + 3) lv st S K) : X G d Y pc lv (.int y :: .int x :: st) S K := by
  intro p e s m args below meth c H locs ls C hG hK hZ hP hS hl
  exact lv_icmp_ge C.1 C.2.1 hd hg (fun q => ht q p e s m args below meth c H locs ls C hG hK hZ hP hS hl) (fun q => hf q p e s m args below meth c H locs ls C hG hK hZ hP hS hl)
theorem x_if_gt {x : Int32} {off : Int} (tgt : Nat) (hd : decode Y.2.1 pc = .ok (.ifCond .gt off, 3)) (hg : (pc : Int) + off = (tgt : Int)) (ht : 0 < x → X G d Y tgt lv st S K) (hf : ¬ 0 < x → X G d Y (pc + 3) lv st S K) : X G d Y pc lv (.int x :: st) S K := by
  intro p e s m args below meth c H locs ls C hG hK hZ hP hS hl
  exact lv_if_gt C.1 C.2.1 hd hg (fun q => ht q p e s m args below meth c H locs ls C hG hK hZ hP hS hl) (fun q => hf q p e s m args below meth c H locs ls C hG hK hZ hP hS hl)
theorem x_ic_gt {x y : Int32} {off : Int} (tgt : Nat) (hd : decode Y.2.1 pc = .ok (.if_icmp .gt off, 3)) (hg : (pc : Int) + off = (tgt : Int)) (ht : y < x → X G d Y tgt lv st S K) (hf : ¬ y < x → X G d Y (pc + 3) lv st S K) : X G d Y pc lv (.int y :: .int x :: st) S K := by
  intro p e s m args below meth c H locs ls C hG hK hZ hP hS hl
  exact lv_icmp_gt C.1 C.2.1 hd hg (fun q => ht q p e s m args below meth c H locs ls C hG hK hZ hP hS hl) (fun q => hf q p e s m args below meth c H locs ls C hG hK hZ hP hS hl)
theorem x_if_le {x : Int32} {off : Int} (tgt : Nat) (hd : decode Y.2.1 pc = .ok (.ifCond .le off, 3)) (hg : (pc : Int) + off = (tgt : Int)) (ht : x ≤ 0 → X G d Y tgt lv st S K) (hf : ¬ x ≤ 0 → X G d Y (pc + 3) lv st S K) : X G d Y pc lv (.int x :: st) S K := by
  intro p e s m args below meth c H locs ls C hG hK hZ hP hS hl
  exact lv_if_le C.1 C.2.1 hd hg (fun q => ht q p e s m args below meth c H locs ls C hG hK hZ hP hS hl) (fun q => hf q p e s m args below meth c H locs ls C hG hK hZ hP hS hl)
theorem x_ic_le {x y : Int32} {off : Int} (tgt : Nat) (hd : decode Y.2.1 pc = .ok (.if_icmp .le off, 3)) (hg : (pc : Int) + off = (tgt : Int)) (ht : x ≤ y → X G d Y tgt lv st S K) (hf : ¬ x ≤ y → X G d Y (pc + 3) lv st S K) : X G d Y pc lv (.int y :: .int x :: st) S K := by
  intro p e s m args below meth c H locs ls C hG hK hZ hP hS hl
  exact lv_icmp_le C.1 C.2.1 hd hg (fun q => ht q p e s m args below meth c H locs ls C hG hK hZ hP hS hl) (fun q => hf q p e s m args below meth c H locs ls C hG hK hZ hP hS hl)
theorem x_goto {off : Int} (tgt : Nat) (hd : decode Y.2.1 pc = .ok (.goto off, 3)) (hg : (pc : Int) + off = (tgt : Int)) (h : X G d Y tgt lv st S K) : X G d Y pc lv st S K := by
  intro p e s m args below meth c H locs ls C hG hK hZ hP hS hl
  exact lv_goto C.1 C.2.1 hd hg (h p e s m args below meth c H locs ls C hG hK hZ hP hS hl)
theorem x_ldc {ix : Nat} {v : Int32} (hd : decode Y.2.1 pc = .ok (.ldc ix, 2)) (hw : Cond.constant Y.1.cls ix v ∈ x_TT) (h : X G d Y (pc + 2) lv (.int v :: st) S K) : X G d Y pc lv (st) S K := by
  intro p e s m args below meth c H locs ls C hG hK hZ hP hS hl
  exact lv_ldc C.1 C.2.1 C.2.2.2.2.1 (C.2.2.2.2.2.1 _ (List.mem_cons_of_mem _ hw)) hd (h p e s m args below meth c H locs ls C hG hK hZ hP hS hl)
theorem x_ldcw {ix : Nat} {v : Int32} (hd : decode Y.2.1 pc = .ok (.ldc_w ix, 3)) (hw : Cond.constant Y.1.cls ix v ∈ x_TT) (h : X G d Y (pc + 3) lv (.int v :: st) S K) : X G d Y pc lv (st) S K := by
  intro p e s m args below meth c H locs ls C hG hK hZ hP hS hl
  exact lv_ldcw C.1 C.2.1 C.2.2.2.2.1 (C.2.2.2.2.2.1 _ (List.mem_cons_of_mem _ hw)) hd (h p e s m args below meth c H locs ls C hG hK hZ hP hS hl)
theorem x_ldc2 {ix : Nat} {v : Int64} (hd : decode Y.2.1 pc = .ok (.ldc2_w ix, 3)) (hw : Cond.constantLong Y.1.cls ix v ∈ x_TT) (h : X G d Y (pc + 3) lv (.long v :: st) S K) : X G d Y pc lv (st) S K := by
  intro p e s m args below meth c H locs ls C hG hK hZ hP hS hl
  exact lv_ldc2 C.1 C.2.1 C.2.2.2.2.1 (C.2.2.2.2.2.1 _ (List.mem_cons_of_mem _ hw)) hd (h p e s m args below meth c H locs ls C hG hK hZ hP hS hl)
theorem x_tableOut {dflt lo hi : Int} {offs : Array Int} {len : Nat} {x : Int32} (tgt : Nat) (hd : decode Y.2.1 pc = .ok (.tableswitch dflt lo hi offs, len)) (ho : x.toInt < lo ∨ hi < x.toInt) (hg : (pc : Int) + dflt = (tgt : Int)) (h : X G d Y tgt lv st S K) : X G d Y pc lv (.int x :: st) S K := by
  intro p e s m args below meth c H locs ls C hG hK hZ hP hS hl
  exact lv_tableOut C.1 C.2.1 hd ho hg (h p e s m args below meth c H locs ls C hG hK hZ hP hS hl)
theorem x_tableIn {dflt lo hi : Int} {offs : Array Int} {len : Nat} {x : Int32} {off : Int} (tgt : Nat) (hd : decode Y.2.1 pc = .ok (.tableswitch dflt lo hi offs, len)) (h1 : ¬ x.toInt < lo) (h2 : ¬ hi < x.toInt) (ho : offs[(x.toInt - lo).toNat]? = some off) (hg : (pc : Int) + off = (tgt : Int)) (h : X G d Y tgt lv st S K) : X G d Y pc lv (.int x :: st) S K := by
  intro p e s m args below meth c H locs ls C hG hK hZ hP hS hl
  exact lv_tableIn C.1 C.2.1 hd h1 h2 ho hg (h p e s m args below meth c H locs ls C hG hK hZ hP hS hl)
theorem x_lookup {dflt : Int} {ps : Array (Int × Int)} {len : Nat} {x : Int32} {off : Int} (tgt : Nat) (hd : decode Y.2.1 pc = .ok (.lookupswitch dflt ps, len)) (hp : (ps.toList.zip (ps.toList.drop 1)).all (fun (a, next) => a.1 < next.1) = true) (ho : Op.lookupswitch.offset ps.toList dflt x.toInt = off) (hg : (pc : Int) + off = (tgt : Int)) (h : X G d Y tgt lv st S K) : X G d Y pc lv (.int x :: st) S K := by
  intro p e s m args below meth c H locs ls C hG hK hZ hP hS hl
  exact lv_lookup C.1 C.2.1 hd hp ho hg (h p e s m args below meth c H locs ls C hG hK hZ hP hS hl)
theorem x_getI {ci N o k ix : Nat} {C : String} {T : u_T} {ty : Nat → FieldType} {fk : List Nat} (hc : x_Cls ci C T N ty) (ho : G.2.2.2.2.1[o]? = some (.inr (ci, fk))) (hk : fk[k]? = some (0)) (hkN : k < N) (hd : decode Y.2.1 pc = .ok (.getfield ix, 3)) (hw : Cond.fieldLink Y.1.cls ix (T k).1 (T k).2.1 (T k).2.2.1 ∈ x_TT) (h : X G d Y (pc + 3) lv (.int (S.1 o k) :: st) S K) : X G d Y pc lv (.ref (x_ad G o) :: st) S K := by
  intro p e s m args below meth c H locs ls C_ hG hK hZ hP hS hl
  refine va_get (D := G.2.1) (cl := vwCl) (ws := x_ws G S) (C := C) (T := T) (N := N) (ci := ci) (Ts := x_TT) C_.1 C_.2.1 (fun w hw => C_.2.2.2.2.2.1 w (List.mem_cons_of_mem _ hw)) hc.2.1 C_.2.2.2.2.1 hK hP o (x_ws_get ho) hc.1 k hkN (C_.2.2.2.2.2.1 _ (List.mem_cons_of_mem _ hw)) (fun _ h9 => h9) (v := .int (S.1 o k)) ?_ hd (h p e s m args below meth c H locs ls C_ hG hK hZ hP hS hl)
  rw [x_fs_get, hk]; simp [x_sv]
theorem x_getL {ci N o k ix : Nat} {C : String} {T : u_T} {ty : Nat → FieldType} {fk : List Nat} (hc : x_Cls ci C T N ty) (ho : G.2.2.2.2.1[o]? = some (.inr (ci, fk))) (hk : fk[k]? = some (1)) (hkN : k < N) (hd : decode Y.2.1 pc = .ok (.getfield ix, 3)) (hw : Cond.fieldLink Y.1.cls ix (T k).1 (T k).2.1 (T k).2.2.1 ∈ x_TT) (h : X G d Y (pc + 3) lv (.long (S.2.1 o k) :: st) S K) : X G d Y pc lv (.ref (x_ad G o) :: st) S K := by
  intro p e s m args below meth c H locs ls C_ hG hK hZ hP hS hl
  refine va_get (D := G.2.1) (cl := vwCl) (ws := x_ws G S) (C := C) (T := T) (N := N) (ci := ci) (Ts := x_TT) C_.1 C_.2.1 (fun w hw => C_.2.2.2.2.2.1 w (List.mem_cons_of_mem _ hw)) hc.2.1 C_.2.2.2.2.1 hK hP o (x_ws_get ho) hc.1 k hkN (C_.2.2.2.2.2.1 _ (List.mem_cons_of_mem _ hw)) (fun _ h9 => h9) (v := .long (S.2.1 o k)) ?_ hd (h p e s m args below meth c H locs ls C_ hG hK hZ hP hS hl)
  rw [x_fs_get, hk]; simp [x_sv]
theorem x_getV {ci N o k ix : Nat} {C : String} {T : u_T} {ty : Nat → FieldType} {fk : List Nat} (hc : x_Cls ci C T N ty) (ho : G.2.2.2.2.1[o]? = some (.inr (ci, fk))) (hk : fk[k]? = some (2)) (hkN : k < N) (hd : decode Y.2.1 pc = .ok (.getfield ix, 3)) (hw : Cond.fieldLink Y.1.cls ix (T k).1 (T k).2.1 (T k).2.2.1 ∈ x_TT) (h : X G d Y (pc + 3) lv (.ref (x_ad G (S.2.2 o)) :: st) S K) : X G d Y pc lv (.ref (x_ad G o) :: st) S K := by
  intro p e s m args below meth c H locs ls C_ hG hK hZ hP hS hl
  refine va_get (D := G.2.1) (cl := vwCl) (ws := x_ws G S) (C := C) (T := T) (N := N) (ci := ci) (Ts := x_TT) C_.1 C_.2.1 (fun w hw => C_.2.2.2.2.2.1 w (List.mem_cons_of_mem _ hw)) hc.2.1 C_.2.2.2.2.1 hK hP o (x_ws_get ho) hc.1 k hkN (C_.2.2.2.2.2.1 _ (List.mem_cons_of_mem _ hw)) (fun _ h9 => h9) (v := .ref (x_ad G (S.2.2 o))) ?_ hd (h p e s m args below meth c H locs ls C_ hG hK hZ hP hS hl)
  rw [x_fs_get, hk]; simp [x_sv]
theorem x_getR {ci N o k ix : Nat} {r : Nat} {C : String} {T : u_T} {ty : Nat → FieldType} {fk : List Nat} (hc : x_Cls ci C T N ty) (ho : G.2.2.2.2.1[o]? = some (.inr (ci, fk))) (hk : fk[k]? = some (r + 3)) (hkN : k < N) (hd : decode Y.2.1 pc = .ok (.getfield ix, 3)) (hw : Cond.fieldLink Y.1.cls ix (T k).1 (T k).2.1 (T k).2.2.1 ∈ x_TT) (h : X G d Y (pc + 3) lv (.ref (x_ad G r) :: st) S K) : X G d Y pc lv (.ref (x_ad G o) :: st) S K := by
  intro p e s m args below meth c H locs ls C_ hG hK hZ hP hS hl
  refine va_get (D := G.2.1) (cl := vwCl) (ws := x_ws G S) (C := C) (T := T) (N := N) (ci := ci) (Ts := x_TT) C_.1 C_.2.1 (fun w hw => C_.2.2.2.2.2.1 w (List.mem_cons_of_mem _ hw)) hc.2.1 C_.2.2.2.2.1 hK hP o (x_ws_get ho) hc.1 k hkN (C_.2.2.2.2.2.1 _ (List.mem_cons_of_mem _ hw)) (fun _ h9 => h9) (v := .ref (x_ad G r)) ?_ hd (h p e s m args below meth c H locs ls C_ hG hK hZ hP hS hl)
  rw [x_fs_get, hk]; simp [x_sv]
theorem x_othI {ad : Nat → Nat} {S : xSt} {c k j q : Nat} {v : Int32} (hj : j ≠ k) : x_sv ad (x_putI S c k v) c j q = x_sv ad S c j q := by
  unfold x_sv x_putI
  split <;> simp [upd, hj]
theorem x_othL {ad : Nat → Nat} {S : xSt} {c k j q : Nat} {v : Int64} (hj : j ≠ k) : x_sv ad (x_putL S c k v) c j q = x_sv ad S c j q := by
  unfold x_sv x_putL
  split <;> simp [vp_updL, hj]
theorem x_pfI {ci N o k ix : Nat} {C : String} {T : u_T} {ty : Nat → FieldType} {fk : List Nat} {v : Int32} (hc : x_Cls ci C T N ty) (ho : G.2.2.2.2.1[o]? = some (.inr (ci, fk))) (hk : fk[k]? = some 0) (hkN : k < N) (hf : (T k).2.2.2 = false) (hn : narrow (ty k) (.int v) = .int v) (hfit : fits (ty k) (.int v) = true) (hd : decode Y.2.1 pc = .ok (.putfield ix, 3)) (hw : Cond.fieldLink Y.1.cls ix (T k).1 (T k).2.1 (T k).2.2.1 ∈ x_TT) (h : X G d Y (pc + 3) lv st (x_putI S o k v) K) : X G d Y pc lv (.int v :: .ref (x_ad G o) :: st) S K := by
  intro p e s m args below meth c H locs ls C_ hG hK hZ hP hS hl
  have hset : (x_ws G S).set o (x_ad G o, .inr (ci, (x_fs (x_ad G) S o 0 fk).set k (.int v))) = x_ws G (x_putI S o k v) := by
    rw [x_fs_set (S' := x_putI S o k v) hk (by simp [x_sv, x_putI, upd]) (fun j q' _ hj => x_othI hj)]
    exact x_ws_set ho (x_putI_o S o k v)
  refine va_put (D := G.2.1) (cl := vwCl) (ws := x_ws G S) (C := C) (T := T) (N := N) (ci := ci) (Ts := x_TT) (fs := x_fs (x_ad G) S o 0 fk) C_.1 C_.2.1 (fun w hw => C_.2.2.2.2.2.1 w (List.mem_cons_of_mem _ hw)) hc.2.1 ty hc.2.2.1 hc.2.2.2 C_.2.2.2.2.1 hK hP (x_D hG S) hS o (x_ws_get ho) hc.1 k hkN (C_.2.2.2.2.2.1 _ (List.mem_cons_of_mem _ hw)) (fun _ h9 => h9) hf (hc.2.2.1 k hkN) hn hfit (by rw [x_fs_len]; exact (List.getElem?_eq_some_iff.mp hk).1) hd (fun H1 locs1 hP1 hD1 hS1 => ?_)
  rw [hset] at hP1
  exact h p e s m args below meth c H1 locs1 ls C_ hG hK hZ hP1 hS1 hl
theorem x_pfL {ci N o k ix : Nat} {C : String} {T : u_T} {ty : Nat → FieldType} {fk : List Nat} {v : Int64} (hc : x_Cls ci C T N ty) (ho : G.2.2.2.2.1[o]? = some (.inr (ci, fk))) (hk : fk[k]? = some 1) (hkN : k < N) (hf : (T k).2.2.2 = false) (hn : narrow (ty k) (.long v) = .long v) (hfit : fits (ty k) (.long v) = true) (hd : decode Y.2.1 pc = .ok (.putfield ix, 3)) (hw : Cond.fieldLink Y.1.cls ix (T k).1 (T k).2.1 (T k).2.2.1 ∈ x_TT) (h : X G d Y (pc + 3) lv st (x_putL S o k v) K) : X G d Y pc lv (.long v :: .ref (x_ad G o) :: st) S K := by
  intro p e s m args below meth c H locs ls C_ hG hK hZ hP hS hl
  have hset : (x_ws G S).set o (x_ad G o, .inr (ci, (x_fs (x_ad G) S o 0 fk).set k (.long v))) = x_ws G (x_putL S o k v) := by
    rw [x_fs_set (S' := x_putL S o k v) hk (by simp [x_sv, x_putL, vp_updL]) (fun j q' _ hj => x_othL hj)]
    exact x_ws_set ho (x_putL_o S o k v)
  refine va_put (D := G.2.1) (cl := vwCl) (ws := x_ws G S) (C := C) (T := T) (N := N) (ci := ci) (Ts := x_TT) (fs := x_fs (x_ad G) S o 0 fk) C_.1 C_.2.1 (fun w hw => C_.2.2.2.2.2.1 w (List.mem_cons_of_mem _ hw)) hc.2.1 ty hc.2.2.1 hc.2.2.2 C_.2.2.2.2.1 hK hP (x_D hG S) hS o (x_ws_get ho) hc.1 k hkN (C_.2.2.2.2.2.1 _ (List.mem_cons_of_mem _ hw)) (fun _ h9 => h9) hf (hc.2.2.1 k hkN) hn hfit (by rw [x_fs_len]; exact (List.getElem?_eq_some_iff.mp hk).1) hd (fun H1 locs1 hP1 hD1 hS1 => ?_)
  rw [hset] at hP1
  exact h p e s m args below meth c H1 locs1 ls C_ hG hK hZ hP1 hS1 hl
theorem x_pfR {ci N o k ix r : Nat} {C : String} {T : u_T} {ty : Nat → FieldType} {fk : List Nat} (hc : x_Cls ci C T N ty) (ho : G.2.2.2.2.1[o]? = some (.inr (ci, fk))) (hk : fk[k]? = some 2) (hsole : ∀ j, fk[j]? = some 2 → j = k) (hkN : k < N) (hf : (T k).2.2.2 = false) (hn : narrow (ty k) (.ref (x_ad G r)) = .ref (x_ad G r)) (hfit : fits (ty k) (.ref (x_ad G r)) = true) (hd : decode Y.2.1 pc = .ok (.putfield ix, 3)) (hw : Cond.fieldLink Y.1.cls ix (T k).1 (T k).2.1 (T k).2.2.1 ∈ x_TT) (h : X G d Y (pc + 3) lv st (x_putR S o r) K) : X G d Y pc lv (.ref (x_ad G r) :: .ref (x_ad G o) :: st) S K := by
  intro p e s m args below meth c H locs ls C_ hG hK hZ hP hS hl
  have hset : (x_ws G S).set o (x_ad G o, .inr (ci, (x_fs (x_ad G) S o 0 fk).set k (.ref (x_ad G r)))) = x_ws G (x_putR S o r) := by
    rw [x_fs_set (S' := x_putR S o r) hk (by simp [x_sv, x_putR]) (fun j q' hq hj => by
      unfold x_sv x_putR
      split
      · rfl
      · rfl
      · exact absurd (hsole j hq) hj
      · rfl)]
    exact x_ws_set ho (x_putR_o S o r)
  refine va_put (D := G.2.1) (cl := vwCl) (ws := x_ws G S) (C := C) (T := T) (N := N) (ci := ci) (Ts := x_TT) (fs := x_fs (x_ad G) S o 0 fk) C_.1 C_.2.1 (fun w hw => C_.2.2.2.2.2.1 w (List.mem_cons_of_mem _ hw)) hc.2.1 ty hc.2.2.1 hc.2.2.2 C_.2.2.2.2.1 hK hP (x_D hG S) hS o (x_ws_get ho) hc.1 k hkN (C_.2.2.2.2.2.1 _ (List.mem_cons_of_mem _ hw)) (fun _ h9 => h9) hf (hc.2.2.1 k hkN) hn hfit (by rw [x_fs_len]; exact (List.getElem?_eq_some_iff.mp hk).1) hd (fun H1 locs1 hP1 hD1 hS1 => ?_)
  rw [hset] at hP1
  exact h p e s m args below meth c H1 locs1 ls C_ hG hK hZ hP1 hS1 hl
theorem x_iald {o n : Nat} {i : Int32} (ho : G.2.2.2.2.1[o]? = some (.inl (0, n))) (hd : decode Y.2.1 pc = .ok (.iaload, 1)) (hin : vp_in i n) (h : X G d Y (pc + 1) lv (.int (S.1 o i.toNatClampNeg) :: st) S K) : X G d Y pc lv (.int i :: .ref (x_ad G o) :: st) S K := by
  intro p e s m args below meth c H locs ls C hG hK hZ hP hS hl
  exact va_iald (D := G.2.1) (cl := vwCl) (ws := x_ws G S) C.1 C.2.1 hK hP o 0 (x_ws_get ho) rfl hin hd (h p e s m args below meth c H locs ls C hG hK hZ hP hS hl)
theorem x_bald {o n : Nat} {i : Int32} (ho : G.2.2.2.2.1[o]? = some (.inl (1, n))) (hd : decode Y.2.1 pc = .ok (.baload, 1)) (hin : vp_in i n) (h : X G d Y (pc + 1) lv (.int (S.1 o i.toNatClampNeg) :: st) S K) : X G d Y pc lv (.int i :: .ref (x_ad G o) :: st) S K := by
  intro p e s m args below meth c H locs ls C hG hK hZ hP hS hl
  exact va_bald (D := G.2.1) (cl := vwCl) (ws := x_ws G S) C.1 C.2.1 hK hP o 1 (x_ws_get ho) rfl hin hd (h p e s m args below meth c H locs ls C hG hK hZ hP hS hl)
theorem x_zald {o n : Nat} {i : Int32} (ho : G.2.2.2.2.1[o]? = some (.inl (2, n))) (hd : decode Y.2.1 pc = .ok (.baload, 1)) (hin : vp_in i n) (h : X G d Y (pc + 1) lv (.int (S.1 o i.toNatClampNeg) :: st) S K) : X G d Y pc lv (.int i :: .ref (x_ad G o) :: st) S K := by
  intro p e s m args below meth c H locs ls C hG hK hZ hP hS hl
  exact va_zald (D := G.2.1) (cl := vwCl) (ws := x_ws G S) C.1 C.2.1 hK hP o 2 (x_ws_get ho) rfl hin hd (h p e s m args below meth c H locs ls C hG hK hZ hP hS hl)
theorem x_lald {o n : Nat} {i : Int32} (ho : G.2.2.2.2.1[o]? = some (.inl (3, n))) (hd : decode Y.2.1 pc = .ok (.laload, 1)) (hin : vp_in i n) (h : X G d Y (pc + 1) lv (.long (S.2.1 o i.toNatClampNeg) :: st) S K) : X G d Y pc lv (.int i :: .ref (x_ad G o) :: st) S K := by
  intro p e s m args below meth c H locs ls C hG hK hZ hP hS hl
  exact va_lald (D := G.2.1) (cl := vwCl) (ws := x_ws G S) C.1 C.2.1 hK hP o 3 (x_ws_get ho) rfl hin hd (h p e s m args below meth c H locs ls C hG hK hZ hP hS hl)
theorem x_iast {o n : Nat} {i : Int32} {x : Int32} (ho : G.2.2.2.2.1[o]? = some (.inl (0, n))) (hd : decode Y.2.1 pc = .ok (.iastore, 1)) (hin : vp_in i n) (h : X G d Y (pc + 1) lv st (x_putI S o i.toNatClampNeg x) K) : X G d Y pc lv (.int x :: .int i :: .ref (x_ad G o) :: st) S K := by
  intro p e s m args below meth c H locs ls C hG hK hZ hP hS hl
  have hset : (x_ws G S).set o (x_ad G o, .inl (G.2.2.1 0, n, .inl (upd (S.1 o) i.toNatClampNeg x))) = x_ws G (x_putI S o i.toNatClampNeg x) := by
    rw [← x_ws_set (S := S) (S' := x_putI S o i.toNatClampNeg x) ho (x_putI_o S o _ _)]
    simp [x_cell, x_arr, x_putI]
  refine va_iast (D := G.2.1) (cl := vwCl) (ws := x_ws G S) C.1 C.2.1 hK hP (x_D hG S) hS o 0 (x_ws_get ho) rfl hin hd (fun H1 locs1 hP1 hD1 hS1 => ?_)
  rw [hset] at hP1
  exact h p e s m args below meth c H1 locs1 ls C hG hK hZ hP1 hS1 hl
theorem x_bast {o n : Nat} {i : Int32} {x : Int32} (ho : G.2.2.2.2.1[o]? = some (.inl (1, n))) (hd : decode Y.2.1 pc = .ok (.bastore, 1)) (hin : vp_in i n) (h : X G d Y (pc + 1) lv st (x_putI S o i.toNatClampNeg (vp_nar .byte x)) K) : X G d Y pc lv (.int x :: .int i :: .ref (x_ad G o) :: st) S K := by
  intro p e s m args below meth c H locs ls C hG hK hZ hP hS hl
  have hset : (x_ws G S).set o (x_ad G o, .inl (G.2.2.1 1, n, .inl (upd (S.1 o) i.toNatClampNeg (vp_nar .byte x)))) = x_ws G (x_putI S o i.toNatClampNeg (vp_nar .byte x)) := by
    rw [← x_ws_set (S := S) (S' := x_putI S o i.toNatClampNeg (vp_nar .byte x)) ho (x_putI_o S o _ _)]
    simp [x_cell, x_arr, x_putI]
  refine va_bast (D := G.2.1) (cl := vwCl) (ws := x_ws G S) C.1 C.2.1 hK hP (x_D hG S) hS o 1 (x_ws_get ho) rfl hin hd (fun H1 locs1 hP1 hD1 hS1 => ?_)
  rw [hset] at hP1
  exact h p e s m args below meth c H1 locs1 ls C hG hK hZ hP1 hS1 hl
theorem x_zast {o n : Nat} {i : Int32} {x : Int32} (ho : G.2.2.2.2.1[o]? = some (.inl (2, n))) (hd : decode Y.2.1 pc = .ok (.bastore, 1)) (hin : vp_in i n) (h : X G d Y (pc + 1) lv st (x_putI S o i.toNatClampNeg (vp_nar .boolean x)) K) : X G d Y pc lv (.int x :: .int i :: .ref (x_ad G o) :: st) S K := by
  intro p e s m args below meth c H locs ls C hG hK hZ hP hS hl
  have hset : (x_ws G S).set o (x_ad G o, .inl (G.2.2.1 2, n, .inl (upd (S.1 o) i.toNatClampNeg (vp_nar .boolean x)))) = x_ws G (x_putI S o i.toNatClampNeg (vp_nar .boolean x)) := by
    rw [← x_ws_set (S := S) (S' := x_putI S o i.toNatClampNeg (vp_nar .boolean x)) ho (x_putI_o S o _ _)]
    simp [x_cell, x_arr, x_putI]
  refine va_zast (D := G.2.1) (cl := vwCl) (ws := x_ws G S) C.1 C.2.1 hK hP (x_D hG S) hS o 2 (x_ws_get ho) rfl hin hd (fun H1 locs1 hP1 hD1 hS1 => ?_)
  rw [hset] at hP1
  exact h p e s m args below meth c H1 locs1 ls C hG hK hZ hP1 hS1 hl
theorem x_last {o n : Nat} {i : Int32} {x : Int64} (ho : G.2.2.2.2.1[o]? = some (.inl (3, n))) (hd : decode Y.2.1 pc = .ok (.lastore, 1)) (hin : vp_in i n) (h : X G d Y (pc + 1) lv st (x_putL S o i.toNatClampNeg x) K) : X G d Y pc lv (.long x :: .int i :: .ref (x_ad G o) :: st) S K := by
  intro p e s m args below meth c H locs ls C hG hK hZ hP hS hl
  have hset : (x_ws G S).set o (x_ad G o, .inl (G.2.2.1 3, n, .inr (.inl (vp_updL (S.2.1 o) i.toNatClampNeg x)))) = x_ws G (x_putL S o i.toNatClampNeg x) := by
    rw [← x_ws_set (S := S) (S' := x_putL S o i.toNatClampNeg x) ho (x_putL_o S o _ _)]
    simp [x_cell, x_arr, x_putL]
  refine va_last (D := G.2.1) (cl := vwCl) (ws := x_ws G S) C.1 C.2.1 hK hP (x_D hG S) hS o 3 (x_ws_get ho) rfl hin hd (fun H1 locs1 hP1 hD1 hS1 => ?_)
  rw [hset] at hP1
  exact h p e s m args below meth c H1 locs1 ls C hG hK hZ hP1 hS1 hl
theorem x_tysT {G : xG} {t : Nat} (ht : t < 4) : ∃ ty, (x_tys G)[t]? = some (G.2.2.1 t, ty) := by
  match t, ht with
  | 0, _ => exact ⟨_, rfl⟩
  | 1, _ => exact ⟨_, rfl⟩
  | 2, _ => exact ⟨_, rfl⟩
  | 3, _ => exact ⟨_, rfl⟩
theorem x_alen {o t n : Nat} (ht : t < 4) (ho : G.2.2.2.2.1[o]? = some (.inl (t, n))) (hd : decode Y.2.1 pc = .ok (.arraylength, 1)) (h : X G d Y (pc + 1) lv (.int (nI n) :: st) S K) : X G d Y pc lv (.ref (x_ad G o) :: st) S K := by
  intro p e s m args below meth c H locs ls C hG hK hZ hP hS hl
  obtain ⟨ty, hty⟩ := x_tysT (G := G) ht
  exact va_alen (D := G.2.1) (cl := vwCl) (ws := x_ws G S) C.1 C.2.1 hK hP o t (x_ws_get ho) hty rfl hd (h p e s m args below meth c H locs ls C hG hK hZ hP hS hl)
theorem x_Q_of {s t : State} {H : Heap} {locs : List Loc} {a : Array Value} {r : Option Value} (hP : va_P G.2.1 vwCl (x_ws G S) H) (hS : va_S (x_A G) s.heap H locs) (h : K r S) (ht : t.heap = H) : x_Q G K a s (.returned r) t := ⟨⟨r, S, rfl, h, by rw [ht]; exact hP⟩, hS.F ht⟩
theorem x_ireturn {ty : FieldType} {v : Int32} (hr : Y.2.2.2 = some ty) (hn : narrow ty (.int v) = .int v) (hd : decode Y.2.1 pc = .ok (.ireturn, 1)) (h : K (some (.int v)) S) : X G d Y pc lv [.int v] S K := by
  intro p e s m args below meth c H locs ls C hG hK hZ hP hS hl
  exact W.zret C.1 C.2.1 (C.2.2.1.trans hr) hn (fun t ht _ => x_Q_of hP hS h ht) hS.2.2 hd C.2.2.2.2.2.2
theorem x_lreturn {v : Int64} (hr : Y.2.2.2 = some .long) (hd : decode Y.2.1 pc = .ok (.lreturn, 1)) (h : K (some (.long v)) S) : X G d Y pc lv [.long v] S K := by
  intro p e s m args below meth c H locs ls C hG hK hZ hP hS hl
  exact W.lret C.1 C.2.1 (C.2.2.1.trans hr) (fun t ht _ => x_Q_of hP hS h ht) hS.2.2 hd C.2.2.2.2.2.2
theorem x_return (hr : Y.2.2.2 = none) (hd : decode Y.2.1 pc = .ok (.return_, 1)) (h : K none S) : X G d Y pc lv [] S K := by
  intro p e s m args below meth c H locs ls C hG hK hZ hP hS hl
  exact W.vret C.1 C.2.1 (C.2.2.1.trans hr) (fun t ht _ => x_Q_of hP hS h ht) hS.2.2 hd C.2.2.2.2.2.2
theorem x_enter {as : List Value} (hy : plainName Y.1.cls = true) (hn : (lg_sl as).length ≤ Y.2.2.1) (h : X G d Y 0 (lv_args 0 as) [] S K) : E G d Y as S K := by
  refine Met.ofW (cc := Y.2.1) (maxL := Y.2.2.1) (ret := Y.2.2.2) hy rfl ?_
  intro p e s m args below meth c s₁ B hml hv
  obtain ⟨rfl, hG, hK, hP, hZ⟩ := hv
  rw [lg_entry_eq]
  exact h p e s m _ below meth c s.heap [] _ ⟨B.exec, B.bytes, B.returns, hml, findClass_of_methodNamed B.named, atoms_spec (ws := x_wsY Y) B.pre, B.notSynchronized⟩ hG hK hZ hP va_S.rf (lv_entry as hn)
-- calls
theorem x_good {w : Cond} (h : w ∈ x_TT) : (w.onTables && w.keeps) = true ∨ ∃ ty, w = .arrayClass ty := good_of_word (List.mem_filter.mp h).2
def x_M (Y : xY) (n : Nat) : Prop := Cond.code Y.1 Y.2.1 Y.2.2.1 Y.2.2.2 ∈ x_TT ∧ Cond.initialized Y.1.cls ∈ x_TT ∧ Y.2.2.1 ≤ 45 ∧ Y.1.cls ≠ "java/lang/invoke/MethodHandle" ∧ Y.1.cls ≠ "java/lang/invoke/VarHandle" ∧ (parseMethodDescriptor Y.1.desc).map (fun d => d.parameters.length) = some n
def x_MV (Y : xY) (n : Nat) : Prop := x_M Y n ∧ Cond.instanceMethod Y.1 ∈ x_TT ∧ Cond.selects Y.1.cls Y.1 Y.1 ∈ x_TT
def x_MS (Y : xY) (n : Nat) : Prop := x_M Y n ∧ Cond.static Y.1 ∈ x_TT
theorem x_blind {as : List Value} : FrameBlind (va_Pc as (x_Pre G S)) := fun a U g mk h => ⟨h.1, h.2.1, va_K.moved (u := U) (U := U.calling g mk a) (Vm.Alike.refl U.vm) h.2.2.1, h.2.2.2.1, h.2.1.2.2 U _ h.2.2.2.2 rfl rfl⟩
theorem x_pre {s : State} {H : Heap} {locs : List Loc} (hG : x_ok G) (hK : va_K G.2.1 vwCl (x_tys G) s) (hZ : G.2.2.2.2.2 s) (hP : va_P G.2.1 vwCl (x_ws G S) H) (hS : va_S (x_A G) s.heap H locs) (as : List Value) : ∀ U : State, U.heap = H → s.WarmedH U.vm → va_Pc as (x_Pre G S) as.toArray U := fun U hU hW => ⟨rfl, hG, va_K.moved hW.alike hK, by rw [hU]; exact hP, hG.2.1 s U hZ hW (hS.F hU)⟩
theorem x_callK {p : Program} {l : Launch} {e : Env} {R : Room} {s : State} {m : MethodId} {args a : Array Value} {below : List Frame} {meth : Method} {c : Code} {H : Heap} {locs : List Loc} {Q : State → Prop} {ls : Array Slot} {st0 rest : List Value} {Kc : Option Value → xSt → Prop}
    (hr : va_Run p l e R s m args below meth c H locs 0 0 0 0 (F0 m pc ls st0) rest (x_Q G Kc a) (x_A G)) (hS : va_S (x_A G) s.heap H locs)
    (kk : ∀ (r : Option Value) (S' : xSt) (H1 : Heap) (locs1 : List Loc), Kc r S' → va_P G.2.1 vwCl (x_ws G S') H1 → va_S (x_A G) s.heap H1 locs1 → W p l e R s m args below meth c H1 locs1 0 0 Q (F0 m (pc + 3) ls (r.toList ++ rest))) : W p l e R s m args below meth c H locs 0 0 Q (F0 m pc ls st0) := by
  intro T hT X
  obtain ⟨v, st₀, t, T', L, h0, X', hL, e1, e2, ⟨⟨r, S', hv, hp, hb⟩, hz, hk⟩, st⟩ := hr T hT X
  cases hv
  rw [h0] at hz hk
  obtain ⟨t2, a1, b1⟩ := kk _ S' T'.heap (locs ++ L) hp (by rw [e1]; exact hb)
    ⟨Nat.le_trans hS.1 (by rw [e1]; exact hz), fun q h1 h2 => by rw [e1, hk q (Nat.lt_of_lt_of_le h1 hS.1) h2]; exact hS.2.1 q h1 h2, fun q hq => by
      rcases List.mem_append.mp hq with h | h
      · exact hS.2.2 q h
      · exact hL q h⟩ T' rfl X'
  exact ⟨t2, st t2 a1, b1⟩
theorem x_callV {Y' : xY} {as rest : List Value} {n ix o ci N : Nat} {T : u_T} {fk : List Nat} {Kc : Option Value → xSt → Prop} (hM : x_MV Y' n) (hc : vwCl[ci]? = some (Y'.1.cls, T, N)) (ho : G.2.2.2.2.1[o]? = some (.inr (ci, fk))) (hd : decode Y.2.1 pc = .ok (.invokevirtual ix, 3)) (hw : Cond.methodLink Y.1.cls ix Y'.1 ∈ x_TT) (hn : as.length = n) (hr : (rest.map fun v => v.category).sum ≤ 8) (hs : st = as.reverse ++ .ref (x_ad G o) :: rest)
    (h : E G d Y' (.ref (x_ad G o) :: as) S Kc) (hk : ∀ r S', Kc r S' → X G (d + 1) Y (pc + 3) lv (r.toList ++ rest) S' K) : X G (d + 1) Y pc lv st S K := by
  intro p e s m args below meth c H locs ls C hG hK hZ hP hS hl
  subst hs
  obtain ⟨⟨m1, m2, m3, m4, m5, m6⟩, m7, m8⟩ := hM
  have hgood : GoodIn (x_wsY Y) (wsV Y.1.cls ix Y'.1.cls Y'.1 (x_wsY Y')) := by
    have go : ∀ w, w ∈ x_TT → w ∈ x_wsY Y ∧ ((w.onTables && w.keeps) = true ∨ ∃ ty, w = .arrayClass ty) := fun w h => ⟨List.mem_cons_of_mem _ h, x_good h⟩
    intro w h
    unfold wsV at h
    simp only [List.cons_append, List.nil_append, List.mem_cons] at h
    rcases h with h | h | h | h | h | h
    · rw [h]; exact go _ hw
    · rw [h]; exact go _ m7
    · rw [h]; exact go _ m8
    · rw [h]; exact go _ m2
    · rw [h]; exact go _ m1
    · exact go _ h
  refine x_callK (va_runV (g := F0 m pc ls (as.reverse ++ .ref (x_ad G o) :: rest)) (As := as) (rest := rest) ⟨C.1, C.2.1, C.2.2.2.1, C.2.2.2.2.1, C.2.2.2.2.2.1⟩ h (cwV n C.2.2.2.2.2.1 hgood rfl rfl rfl ⟨rfl, m4, m5, m6⟩ ⟨Nat.le_refl _, by show 8 + (Y'.2.2.1 + 11) + 64 * d ≤ 64 * (d + 1); omega⟩) ⟨x_blind, va_recv hK hP hc (x_ws_get ho), x_pre hG hK hZ hP hS _⟩ rfl hn hl.1 rfl (lv_room hr) hd ⟨Nat.zero_le _, Nat.zero_le _⟩) hS (fun r S' H1 locs1 hk1 hP1 hS1 => ?_)
  exact hk r S' hk1 p e s m args below meth c H1 locs1 ls C hG hK hZ hP1 hS1 hl
theorem x_callS {Y' : xY} {as rest : List Value} {n ix : Nat} {Kc : Option Value → xSt → Prop} (hM : x_MS Y' n) (hd : decode Y.2.1 pc = .ok (.invokestatic ix, 3)) (hw : Cond.methodLink Y.1.cls ix Y'.1 ∈ x_TT) (hn : as.length = n) (hr : (rest.map fun v => v.category).sum ≤ 8) (hs : st = as.reverse ++ rest)
    (h : E G d Y' as S Kc) (hk : ∀ r S', Kc r S' → X G (d + 1) Y (pc + 3) lv (r.toList ++ rest) S' K) : X G (d + 1) Y pc lv st S K := by
  intro p e s m args below meth c H locs ls C hG hK hZ hP hS hl
  subst hs
  obtain ⟨⟨m1, m2, m3, m4, m5, m6⟩, m7⟩ := hM
  have hgood : GoodIn (x_wsY Y) (va_wsS Y.1.cls ix Y'.1 (x_wsY Y')) := by
    have go : ∀ w, w ∈ x_TT → w ∈ x_wsY Y ∧ ((w.onTables && w.keeps) = true ∨ ∃ ty, w = .arrayClass ty) := fun w h => ⟨List.mem_cons_of_mem _ h, x_good h⟩
    intro w h
    unfold va_wsS at h
    simp only [List.cons_append, List.nil_append, List.mem_cons] at h
    rcases h with h | h | h | h | h
    · rw [h]; exact go _ hw
    · rw [h]; exact go _ m7
    · rw [h]; exact go _ m2
    · rw [h]; exact go _ m1
    · exact go _ h
  refine x_callK (va_runS (g := F0 m pc ls (as.reverse ++ rest)) (As := as) (rest := rest) ⟨C.1, C.2.1, C.2.2.2.1, C.2.2.2.2.1, C.2.2.2.2.2.1⟩ h (va_cwS n C.2.2.2.2.2.1 hgood rfl rfl rfl ⟨m4, m5, m6⟩ ⟨Nat.le_refl _, by show 8 + (Y'.2.2.1 + 11) + 64 * d ≤ 64 * (d + 1); omega⟩) ⟨x_blind, x_pre hG hK hZ hP hS _⟩ rfl hn hl.1 rfl (lv_room hr) hd ⟨Nat.zero_le _, Nat.zero_le _⟩) hS (fun r S' H1 locs1 hk1 hP1 hS1 => ?_)
  exact hk r S' hk1 p e s m args below meth c H1 locs1 ls C hG hK hZ hP1 hS1 hl
theorem x_mmax {x y : Int32} {ix : Nat} (hw : Cond.methodLink Y.1.cls ix Lib.Math.max.name ∈ x_TT) (h1 : Cond.static Lib.Math.max.name ∈ x_TT) (h2 : Cond.initialized "java/lang/Math" ∈ x_TT) (h3 : Cond.code Lib.Math.max.name Lib.Math.max.code 2 (some .int) ∈ x_TT) (hd : decode Y.2.1 pc = .ok (.invokestatic ix, 3)) (hr : (st.map fun v => v.category).sum ≤ 8) (h : X G (d + 1) Y (pc + 3) lv (.int (if x < y then y else x) :: st) S K) : X G (d + 1) Y pc lv (.int y :: .int x :: st) S K := by
  intro p e s m args below meth c H locs ls C hG hK hZ hP hS hl
  have ht : ∀ w, w ∈ x_TT → w.before args s = true := fun w h => C.2.2.2.2.2.1 w (List.mem_cons_of_mem _ h)
  exact va_mmax C.1 C.2.1 (C.2.2.2.1.trans hl.1.symm) C.2.2.2.2.1 (ht _ hw) (ht _ h1) (ht _ h2) (ht _ h3) (by show 1 ≤ d + 1; omega) (by show _ + 13 ≤ 64 * (d + 1); omega) (Nat.zero_le _) (Nat.zero_le _) hd (h p e s m args below meth c H locs ls C hG hK hZ hP hS hl)
theorem x_mmin {x y : Int32} {ix : Nat} (hw : Cond.methodLink Y.1.cls ix Lib.Math.min.name ∈ x_TT) (h1 : Cond.static Lib.Math.min.name ∈ x_TT) (h2 : Cond.initialized "java/lang/Math" ∈ x_TT) (h3 : Cond.code Lib.Math.min.name Lib.Math.min.code 2 (some .int) ∈ x_TT) (hd : decode Y.2.1 pc = .ok (.invokestatic ix, 3)) (hr : (st.map fun v => v.category).sum ≤ 8) (h : X G (d + 1) Y (pc + 3) lv (.int (if y < x then y else x) :: st) S K) : X G (d + 1) Y pc lv (.int y :: .int x :: st) S K := by
  intro p e s m args below meth c H locs ls C hG hK hZ hP hS hl
  have ht : ∀ w, w ∈ x_TT → w.before args s = true := fun w h => C.2.2.2.2.2.1 w (List.mem_cons_of_mem _ h)
  exact va_mmin C.1 C.2.1 (C.2.2.2.1.trans hl.1.symm) C.2.2.2.2.1 (ht _ hw) (ht _ h1) (ht _ h2) (ht _ h3) (by show 1 ≤ d + 1; omega) (by show _ + 13 ≤ 64 * (d + 1); omega) (Nat.zero_le _) (Nat.zero_le _) hd (h p e s m args below meth c H locs ls C hG hK hZ hP hS hl)
theorem x_copyI {o1 o2 n1 n2 : Nat} {sp dp n : Int32} {ix : Nat} (ho1 : G.2.2.2.2.1[o1]? = some (.inl (0, n1))) (ho2 : G.2.2.2.2.1[o2]? = some (.inl (0, n2))) (hw : Cond.methodLink Y.1.cls ix arraycopyName ∈ x_TT) (h1 : Cond.native arraycopyName ∈ x_TT) (h2 : Cond.static arraycopyName ∈ x_TT) (h3 : Cond.initialized "java/lang/System" ∈ x_TT) (hd : decode Y.2.1 pc = .ok (.invokestatic ix, 3)) (hr : (st.map fun v => v.category).sum ≤ 8)
    (hb : (¬ sp < 0 ∧ ¬ dp < 0 ∧ ¬ n < 0) ∧ sp.toNatClampNeg + n.toNatClampNeg ≤ n1 ∧ dp.toNatClampNeg + n.toNatClampNeg ≤ n2) (h : X G (d + 1) Y (pc + 3) lv st (x_putA S o2 (va_cpy (S.1 o1) (S.1 o2) sp.toNatClampNeg dp.toNatClampNeg n.toNatClampNeg)) K) : X G (d + 1) Y pc lv (.int n :: .int dp :: .ref (x_ad G o2) :: .int sp :: .ref (x_ad G o1) :: st) S K := by
  intro p e s m args below meth c H locs ls C hG hK hZ hP hS hl
  have ht : ∀ w, w ∈ x_TT → w.before args s = true := fun w h => C.2.2.2.2.2.1 w (List.mem_cons_of_mem _ h)
  have hset : (x_ws G S).set o2 (x_ad G o2, .inl (G.2.2.1 0, n2, .inl (va_cpy (S.1 o1) (S.1 o2) sp.toNatClampNeg dp.toNatClampNeg n.toNatClampNeg))) = x_ws G (x_putA S o2 (va_cpy (S.1 o1) (S.1 o2) sp.toNatClampNeg dp.toNatClampNeg n.toNatClampNeg)) := by
    rw [← x_ws_set (S := S) (S' := x_putA S o2 (va_cpy (S.1 o1) (S.1 o2) sp.toNatClampNeg dp.toNatClampNeg n.toNatClampNeg)) ho2 (x_putA_o S o2 _)]
    simp [x_cell, x_arr, x_putA]
  have hna : nativeFrameWords "java/lang/System" "arraycopy" 5 + 11 ≤ 40 := by decide +kernel
  have hfr : 1 ≤ (x_room (d + 1)).frames := by show 1 ≤ d + 1; omega
  have hlo : (st.map fun v => v.category).sum + (nativeFrameWords "java/lang/System" "arraycopy" 5 + 11) ≤ (x_room (d + 1)).locals := by show _ ≤ 64 * (d + 1); omega
  refine va_copyi (D := G.2.1) (cl := vwCl) (ws := x_ws G S) (ty := .int) C.1 C.2.1 (C.2.2.2.1.trans hl.1.symm) C.2.2.2.2.1 (ht _ hw) (ht _ h1) (ht _ h2) (ht _ h3) hK hP (x_D hG S) hS o1 o2 0 0 (x_ws_get ho1) (x_ws_get ho2) rfl rfl rfl hb.1.1 hb.1.2.1 hb.1.2.2 hb.2.1 hb.2.2 (fun i _ => rfl) hfr hlo hd (fun H1 locs1 hP1 hD1 hS1 => ?_)
  rw [hset] at hP1
  exact h p e s m args below meth c H1 locs1 ls C hG hK hZ hP1 hS1 hl
def x_subs (lv : List (Nat × Value)) : List (Nat × Value) → Prop
  | [] => True
  | q :: t => x_get lv q.1 = some q.2 ∧ x_subs lv t
theorem x_subs_mem {lv : List (Nat × Value)} : ∀ {l : List (Nat × Value)}, x_subs lv l → ∀ q ∈ l, q ∈ lv
  | [], _, q, h => by cases h
  | a :: t, hs, q, h => by
    rcases List.mem_cons.mp h with h | h
    · subst h; exact x_get_mem hs.1
    · exact x_subs_mem hs.2 q h
theorem x_weak {lv' : List (Nat × Value)} (hs : x_subs lv lv') (h : X G d Y pc lv' st S K) : X G d Y pc lv st S K := by
  intro p e s m args below meth c H locs ls C hG hK hZ hP hS hl
  exact h p e s m args below meth c H locs ls C hG hK hZ hP hS ⟨hl.1, hl.2.1, fun q hq => hl.2.2 q (x_subs_mem hs q hq)⟩
theorem x_lc_eq {x y : Int64} {off : Int} (tgt : Nat) (hd1 : decode Y.2.1 pc = .ok (.lcmp, 1)) (hd : decode Y.2.1 (pc + 1) = .ok (.ifCond .eq off, 3)) (hg : ((pc + 1 : Nat) : Int) + off = (tgt : Int)) (ht : x = y → X G d Y tgt lv st S K) (hf : ¬ x = y → X G d Y (pc + 1 + 3) lv st S K) : X G d Y pc lv (.long y :: .long x :: st) S K :=
  x_lcmp hd1 (x_if_eq tgt hd hg (fun q => ht ((lg_cmp_eq x y).mp q)) (fun q => hf (fun z => q ((lg_cmp_eq x y).mpr z))))
theorem x_lc_ne {x y : Int64} {off : Int} (tgt : Nat) (hd1 : decode Y.2.1 pc = .ok (.lcmp, 1)) (hd : decode Y.2.1 (pc + 1) = .ok (.ifCond .ne off, 3)) (hg : ((pc + 1 : Nat) : Int) + off = (tgt : Int)) (ht : ¬ x = y → X G d Y tgt lv st S K) (hf : x = y → X G d Y (pc + 1 + 3) lv st S K) : X G d Y pc lv (.long y :: .long x :: st) S K :=
  x_lcmp hd1 (x_if_ne tgt hd hg (fun q => ht (fun z => q ((lg_cmp_eq x y).mpr z))) (fun q => hf ((lg_cmp_eq x y).mp q)))
theorem x_lc_lt {x y : Int64} {off : Int} (tgt : Nat) (hd1 : decode Y.2.1 pc = .ok (.lcmp, 1)) (hd : decode Y.2.1 (pc + 1) = .ok (.ifCond .lt off, 3)) (hg : ((pc + 1 : Nat) : Int) + off = (tgt : Int)) (ht : x < y → X G d Y tgt lv st S K) (hf : ¬ x < y → X G d Y (pc + 1 + 3) lv st S K) : X G d Y pc lv (.long y :: .long x :: st) S K :=
  x_lcmp hd1 (x_if_lt tgt hd hg (fun q => ht ((lg_cmp_lt x y).mp q)) (fun q => hf (fun z => q ((lg_cmp_lt x y).mpr z))))
theorem x_lc_ge {x y : Int64} {off : Int} (tgt : Nat) (hd1 : decode Y.2.1 pc = .ok (.lcmp, 1)) (hd : decode Y.2.1 (pc + 1) = .ok (.ifCond .ge off, 3)) (hg : ((pc + 1 : Nat) : Int) + off = (tgt : Int)) (ht : y ≤ x → X G d Y tgt lv st S K) (hf : ¬ y ≤ x → X G d Y (pc + 1 + 3) lv st S K) : X G d Y pc lv (.long y :: .long x :: st) S K :=
  x_lcmp hd1 (x_if_ge tgt hd hg (fun q => ht ((lg_cmp_ge x y).mp q)) (fun q => hf (fun z => q ((lg_cmp_ge x y).mpr z))))
theorem x_lc_gt {x y : Int64} {off : Int} (tgt : Nat) (hd1 : decode Y.2.1 pc = .ok (.lcmp, 1)) (hd : decode Y.2.1 (pc + 1) = .ok (.ifCond .gt off, 3)) (hg : ((pc + 1 : Nat) : Int) + off = (tgt : Int)) (ht : y < x → X G d Y tgt lv st S K) (hf : ¬ y < x → X G d Y (pc + 1 + 3) lv st S K) : X G d Y pc lv (.long y :: .long x :: st) S K :=
  x_lcmp hd1 (x_if_gt tgt hd hg (fun q => ht ((lg_cmp_gt x y).mp q)) (fun q => hf (fun z => q ((lg_cmp_gt x y).mpr z))))
theorem x_lc_le {x y : Int64} {off : Int} (tgt : Nat) (hd1 : decode Y.2.1 pc = .ok (.lcmp, 1)) (hd : decode Y.2.1 (pc + 1) = .ok (.ifCond .le off, 3)) (hg : ((pc + 1 : Nat) : Int) + off = (tgt : Int)) (ht : x ≤ y → X G d Y tgt lv st S K) (hf : ¬ x ≤ y → X G d Y (pc + 1 + 3) lv st S K) : X G d Y pc lv (.long y :: .long x :: st) S K :=
  x_lcmp hd1 (x_if_le tgt hd hg (fun q => ht ((lg_cmp_le x y).mp q)) (fun q => hf (fun z => q ((lg_cmp_le x y).mpr z))))
def zb (v : Int32) : Prop := narrow .boolean (.int v) = .int v ∧ fits .boolean (.int v) = true
theorem zb0 : zb 0 := ⟨by decide +kernel, by decide +kernel⟩
theorem zb1 : zb 1 := ⟨by decide +kernel, by decide +kernel⟩
theorem x_cVi {Y' : xY} {as rest : List Value} {n ix o ci N : Nat} {T : u_T} {fk : List Nat} (hM : x_MV Y' n) (hc : vwCl[ci]? = some (Y'.1.cls, T, N)) (ho : G.2.2.2.2.1[o]? = some (.inr (ci, fk))) (hd : decode Y.2.1 pc = .ok (.invokevirtual ix, 3)) (hw : Cond.methodLink Y.1.cls ix Y'.1 ∈ x_TT) (hn : as.length = n) (hr : (rest.map fun v => v.category).sum ≤ 8) (hs : st = as.reverse ++ .ref (x_ad G o) :: rest) {Kc : Int32 → xSt → Prop} (h : E G d Y' (.ref (x_ad G o) :: as) S (kI Kc)) (hk : ∀ x S', Kc x S' → X G (d + 1) Y (pc + 3) lv (.int x :: rest) S' K) : X G (d + 1) Y pc lv st S K := x_callV hM hc ho hd hw hn hr hs h (fun r S' hq => by
  obtain ⟨x, rfl, q⟩ := hq
  exact hk x S' q)
theorem x_cVl {Y' : xY} {as rest : List Value} {n ix o ci N : Nat} {T : u_T} {fk : List Nat} (hM : x_MV Y' n) (hc : vwCl[ci]? = some (Y'.1.cls, T, N)) (ho : G.2.2.2.2.1[o]? = some (.inr (ci, fk))) (hd : decode Y.2.1 pc = .ok (.invokevirtual ix, 3)) (hw : Cond.methodLink Y.1.cls ix Y'.1 ∈ x_TT) (hn : as.length = n) (hr : (rest.map fun v => v.category).sum ≤ 8) (hs : st = as.reverse ++ .ref (x_ad G o) :: rest) {Kc : Int64 → xSt → Prop} (h : E G d Y' (.ref (x_ad G o) :: as) S (kL Kc)) (hk : ∀ x S', Kc x S' → X G (d + 1) Y (pc + 3) lv (.long x :: rest) S' K) : X G (d + 1) Y pc lv st S K := x_callV hM hc ho hd hw hn hr hs h (fun r S' hq => by
  obtain ⟨x, rfl, q⟩ := hq
  exact hk x S' q)
theorem x_cVv {Y' : xY} {as rest : List Value} {n ix o ci N : Nat} {T : u_T} {fk : List Nat} (hM : x_MV Y' n) (hc : vwCl[ci]? = some (Y'.1.cls, T, N)) (ho : G.2.2.2.2.1[o]? = some (.inr (ci, fk))) (hd : decode Y.2.1 pc = .ok (.invokevirtual ix, 3)) (hw : Cond.methodLink Y.1.cls ix Y'.1 ∈ x_TT) (hn : as.length = n) (hr : (rest.map fun v => v.category).sum ≤ 8) (hs : st = as.reverse ++ .ref (x_ad G o) :: rest) {Kc : xSt → Prop} (h : E G d Y' (.ref (x_ad G o) :: as) S (kV Kc)) (hk : ∀ S', Kc S' → X G (d + 1) Y (pc + 3) lv rest S' K) : X G (d + 1) Y pc lv st S K := x_callV hM hc ho hd hw hn hr hs h (fun r S' hq => by
  obtain ⟨rfl, q⟩ := hq
  exact hk S' q)
theorem x_cSi {Y' : xY} {as rest : List Value} {n ix : Nat} (hM : x_MS Y' n) (hd : decode Y.2.1 pc = .ok (.invokestatic ix, 3)) (hw : Cond.methodLink Y.1.cls ix Y'.1 ∈ x_TT) (hn : as.length = n) (hr : (rest.map fun v => v.category).sum ≤ 8) (hs : st = as.reverse ++ rest) {Kc : Int32 → xSt → Prop} (h : E G d Y' (as) S (kI Kc)) (hk : ∀ x S', Kc x S' → X G (d + 1) Y (pc + 3) lv (.int x :: rest) S' K) : X G (d + 1) Y pc lv st S K := x_callS hM hd hw hn hr hs h (fun r S' hq => by
  obtain ⟨x, rfl, q⟩ := hq
  exact hk x S' q)
theorem x_cSl {Y' : xY} {as rest : List Value} {n ix : Nat} (hM : x_MS Y' n) (hd : decode Y.2.1 pc = .ok (.invokestatic ix, 3)) (hw : Cond.methodLink Y.1.cls ix Y'.1 ∈ x_TT) (hn : as.length = n) (hr : (rest.map fun v => v.category).sum ≤ 8) (hs : st = as.reverse ++ rest) {Kc : Int64 → xSt → Prop} (h : E G d Y' (as) S (kL Kc)) (hk : ∀ x S', Kc x S' → X G (d + 1) Y (pc + 3) lv (.long x :: rest) S' K) : X G (d + 1) Y pc lv st S K := x_callS hM hd hw hn hr hs h (fun r S' hq => by
  obtain ⟨x, rfl, q⟩ := hq
  exact hk x S' q)
theorem x_cSv {Y' : xY} {as rest : List Value} {n ix : Nat} (hM : x_MS Y' n) (hd : decode Y.2.1 pc = .ok (.invokestatic ix, 3)) (hw : Cond.methodLink Y.1.cls ix Y'.1 ∈ x_TT) (hn : as.length = n) (hr : (rest.map fun v => v.category).sum ≤ 8) (hs : st = as.reverse ++ rest) {Kc : xSt → Prop} (h : E G d Y' (as) S (kV Kc)) (hk : ∀ S', Kc S' → X G (d + 1) Y (pc + 3) lv rest S' K) : X G (d + 1) Y pc lv st S K := x_callS hM hd hw hn hr hs h (fun r S' hq => by
  obtain ⟨rfl, q⟩ := hq
  exact hk S' q)
theorem x_top {x v : Int32} (hv : x = v) (h : X G d Y pc lv (.int v :: st) S K) : X G d Y pc lv (.int x :: st) S K := by subst hv; exact h
theorem x_topL {x v : Int64} (hv : x = v) (h : X G d Y pc lv (.long v :: st) S K) : X G d Y pc lv (.long x :: st) S K := by subst hv; exact h
theorem x_tsw {dflt lo hi : Int} {offs : Array Int} {len : Nat} {x v : Int32} {off : Int} (tgt : Nat) (hd : decode Y.2.1 pc = .ok (.tableswitch dflt lo hi offs, len)) (hx : x = v) (h1 : ¬ v.toInt < lo) (h2 : ¬ hi < v.toInt) (ho : offs[(v.toInt - lo).toNat]? = some off) (hg : (pc : Int) + off = (tgt : Int)) (h : X G d Y tgt lv st S K) : X G d Y pc lv (.int x :: st) S K := by
  subst hx; exact x_tableIn tgt hd h1 h2 ho hg h
theorem x_lsw {dflt : Int} {ps : Array (Int × Int)} {len : Nat} {x v : Int32} {off : Int} (tgt : Nat) (hd : decode Y.2.1 pc = .ok (.lookupswitch dflt ps, len)) (hp : (ps.toList.zip (ps.toList.drop 1)).all (fun (a, next) => a.1 < next.1) = true) (hx : x = v) (ho : Op.lookupswitch.offset ps.toList dflt v.toInt = off) (hg : (pc : Int) + off = (tgt : Int)) (h : X G d Y tgt lv st S K) : X G d Y pc lv (.int x :: st) S K := by
  subst hx; exact x_lookup tgt hd hp ho hg h
end
