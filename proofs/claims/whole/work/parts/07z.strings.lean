section
def zs_b0 : List Nat := [109, 97, 110, 32, 99, 111, 108, 111, 117, 114, 32, 104, 111, 108, 101, 115, 32, 108, 101, 102, 116, 32, 100, 101, 101, 100, 32, 104, 111, 117, 114, 115, 32, 98, 117, 116, 116, 111, 110, 32, 111, 110, 32, 98, 121, 32, 100, 111, 101, 115, 32, 110, 101, 118, 101, 114, 32, 117, 110, 116, 105, 108, 32, 116, 104, 114, 101, 97, 100, 32, 97, 102, 116, 101, 114, 32, 102, 114, 105, 101, 110, 100, 32, 119, 101, 97, 114, 32, 100, 97, 121, 32, 115, 116, 111, 114, 109, 32, 100, 114, 97, 119, 32, 111, 114, 32, 97, 110, 100, 32, 110, 111, 116, 32]
def zs_b1 : List Nat := [59, 40, 41, 60, 62, 61, 43, 45, 42, 47, 37]
abbrev zs_n0 : Nat := 114
abbrev zs_len0 : Int32 := 114
def zs_char0 (i : Int32) : Int32 := nI (zs_b0.getD i.toNatClampNeg 0)
def zs_ix : List Nat → Nat → Int32 → Int32
  | [], _, _ => -1
  | b :: t, k, c => if nI b = c then nI k else zs_ix t (k + 1) c
def zs_index1 (c : Int32) : Int32 := zs_ix zs_b1 0 c
theorem z_ldc0 {h : xH} {d : Nat} {Y : xY} {pc : Nat} {lv : List (Nat × Value)} {st : List Value} {S : xSt} {K : Option Value → xSt → Prop} (hd : decode Y.2.1 pc = .ok (.ldc 70, 2)) (hY : Y.1.cls = RX7) (H : X (gC h) d Y (pc + 2) lv (.ref (x_ad (gC h) 1000) :: st) S K) : X (gC h) d Y pc lv st S K := sorry
theorem z_ldc1 {h : xH} {d : Nat} {Y : xY} {pc : Nat} {lv : List (Nat × Value)} {st : List Value} {S : xSt} {K : Option Value → xSt → Prop} (hd : decode Y.2.1 pc = .ok (.ldc 60, 2)) (hY : Y.1.cls = RX7) (H : X (gC h) d Y (pc + 2) lv (.ref (x_ad (gC h) 1001) :: st) S K) : X (gC h) d Y pc lv st S K := sorry
theorem z_len0 {h : xH} {d : Nat} {Y : xY} {pc : Nat} {lv : List (Nat × Value)} {st : List Value} {S : xSt} {K : Option Value → xSt → Prop} {ix : Nat} (hd : decode Y.2.1 pc = .ok (.invokevirtual ix, 3)) (hY : Cond.methodLink Y.1.cls ix yJ0_length_8abf5 ∈ x_TT) (hr : (st.map fun v => v.category).sum ≤ 8) (H : X (gC h) (d + 8) Y (pc + 3) lv (.int zs_len0 :: st) S K) : X (gC h) (d + 8) Y pc lv (.ref (x_ad (gC h) 1000) :: st) S K := sorry
theorem z_charAt0 {h : xH} {d : Nat} {Y : xY} {pc : Nat} {lv : List (Nat × Value)} {st : List Value} {S : xSt} {K : Option Value → xSt → Prop} {ix : Nat} {i : Int32} (hd : decode Y.2.1 pc = .ok (.invokevirtual ix, 3)) (hY : Cond.methodLink Y.1.cls ix yJ0_charAt_5068e ∈ x_TT) (hr : (st.map fun v => v.category).sum ≤ 8) (hi : vp_in i zs_n0) (H : X (gC h) (d + 8) Y (pc + 3) lv (.int (zs_char0 i) :: st) S K) : X (gC h) (d + 8) Y pc lv (.int i :: .ref (x_ad (gC h) 1000) :: st) S K := sorry
theorem z_indexOf1 {h : xH} {d : Nat} {Y : xY} {pc : Nat} {lv : List (Nat × Value)} {st : List Value} {S : xSt} {K : Option Value → xSt → Prop} {ix : Nat} {c : Int32} (hd : decode Y.2.1 pc = .ok (.invokevirtual ix, 3)) (hY : Cond.methodLink Y.1.cls ix yJ0_indexOf_0f7a4 ∈ x_TT) (hr : (st.map fun v => v.category).sum ≤ 8) (H : X (gC h) (d + 8) Y (pc + 3) lv (.int (zs_index1 c) :: st) S K) : X (gC h) (d + 8) Y pc lv (.int c :: .ref (x_ad (gC h) 1001) :: st) S K := sorry
end
