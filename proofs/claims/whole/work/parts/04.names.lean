section
abbrev xH : Type := Launch × va_G × (Nat → ClassId) × (Nat → Nat) × (State → Prop)
theorem tq_1 {w : Cond} (h : w ∈ tables_1_1) : w ∈ lw_tbl := List.mem_append_right _ (List.mem_append_left _ h)
theorem tq_2 {w : Cond} (h : w ∈ tables_1_2) : w ∈ lw_tbl := List.mem_append_right _ (List.mem_append_right _ (List.mem_append_left _ h))
theorem tq_3 {w : Cond} (h : w ∈ tables_1_3) : w ∈ lw_tbl := List.mem_append_right _ (List.mem_append_right _ (List.mem_append_right _ (List.mem_append_left _ h)))
theorem tq_4 {w : Cond} (h : w ∈ tables_1_4) : w ∈ lw_tbl := List.mem_append_right _ (List.mem_append_right _ (List.mem_append_right _ (List.mem_append_right _ (List.mem_append_left _ h))))
theorem tq_5 {w : Cond} (h : w ∈ tables_1_5) : w ∈ lw_tbl := List.mem_append_right _ (List.mem_append_right _ (List.mem_append_right _ (List.mem_append_right _ (List.mem_append_right _ (List.mem_append_left _ h)))))
theorem tq_6 {w : Cond} (h : w ∈ tables_1_6) : w ∈ lw_tbl := List.mem_append_right _ (List.mem_append_right _ (List.mem_append_right _ (List.mem_append_right _ (List.mem_append_right _ (List.mem_append_right _ (List.mem_append_left _ h))))))
theorem tq_7 {w : Cond} (h : w ∈ tables_1_7) : w ∈ lw_tbl := List.mem_append_right _ (List.mem_append_right _ (List.mem_append_right _ (List.mem_append_right _ (List.mem_append_right _ (List.mem_append_right _ (List.mem_append_right _ (List.mem_append_left _ h)))))))
theorem tq_8 {w : Cond} (h : w ∈ tables_1_8) : w ∈ lw_tbl := List.mem_append_right _ (List.mem_append_right _ (List.mem_append_right _ (List.mem_append_right _ (List.mem_append_right _ (List.mem_append_right _ (List.mem_append_right _ (List.mem_append_right _ (List.mem_append_left _ h))))))))
theorem tq_9 {w : Cond} (h : w ∈ tables_1_9) : w ∈ lw_tbl := List.mem_append_right _ (List.mem_append_right _ (List.mem_append_right _ (List.mem_append_right _ (List.mem_append_right _ (List.mem_append_right _ (List.mem_append_right _ (List.mem_append_right _ (List.mem_append_right _ (h)))))))))
theorem tp_1 {w : Cond} (h : w ∈ k2_sels lw_privs_1) : w ∈ lw_tbl := by
  obtain ⟨q, hq, rfl⟩ := List.mem_map.mp h
  exact List.mem_append_left _ (List.mem_map.mpr ⟨q, List.mem_append_left _ hq, rfl⟩)
theorem tp_2 {w : Cond} (h : w ∈ k2_sels lw_privs_2) : w ∈ lw_tbl := by
  obtain ⟨q, hq, rfl⟩ := List.mem_map.mp h
  exact List.mem_append_left _ (List.mem_map.mpr ⟨q, List.mem_append_right _ (List.mem_append_left _ hq), rfl⟩)
theorem tp_3 {w : Cond} (h : w ∈ k2_sels lw_privs_3) : w ∈ lw_tbl := by
  obtain ⟨q, hq, rfl⟩ := List.mem_map.mp h
  exact List.mem_append_left _ (List.mem_map.mpr ⟨q, List.mem_append_right _ (List.mem_append_right _ (List.mem_append_left _ hq)), rfl⟩)
theorem tp_4 {w : Cond} (h : w ∈ k2_sels lw_privs_4) : w ∈ lw_tbl := by
  obtain ⟨q, hq, rfl⟩ := List.mem_map.mp h
  exact List.mem_append_left _ (List.mem_map.mpr ⟨q, List.mem_append_right _ (List.mem_append_right _ (List.mem_append_right _ (List.mem_append_left _ hq))), rfl⟩)
theorem tp_5 {w : Cond} (h : w ∈ k2_sels lw_privs_5) : w ∈ lw_tbl := by
  obtain ⟨q, hq, rfl⟩ := List.mem_map.mp h
  exact List.mem_append_left _ (List.mem_map.mpr ⟨q, List.mem_append_right _ (List.mem_append_right _ (List.mem_append_right _ (List.mem_append_right _ (List.mem_append_left _ hq)))), rfl⟩)
theorem tp_6 {w : Cond} (h : w ∈ k2_sels lw_privs_6) : w ∈ lw_tbl := by
  obtain ⟨q, hq, rfl⟩ := List.mem_map.mp h
  exact List.mem_append_left _ (List.mem_map.mpr ⟨q, List.mem_append_right _ (List.mem_append_right _ (List.mem_append_right _ (List.mem_append_right _ (List.mem_append_right _ (List.mem_append_left _ hq))))), rfl⟩)
theorem tp_7 {w : Cond} (h : w ∈ k2_sels lw_privs_7) : w ∈ lw_tbl := by
  obtain ⟨q, hq, rfl⟩ := List.mem_map.mp h
  exact List.mem_append_left _ (List.mem_map.mpr ⟨q, List.mem_append_right _ (List.mem_append_right _ (List.mem_append_right _ (List.mem_append_right _ (List.mem_append_right _ (List.mem_append_right _ (List.mem_append_left _ hq)))))), rfl⟩)
theorem tp_8 {w : Cond} (h : w ∈ k2_sels lw_privs_8) : w ∈ lw_tbl := by
  obtain ⟨q, hq, rfl⟩ := List.mem_map.mp h
  exact List.mem_append_left _ (List.mem_map.mpr ⟨q, List.mem_append_right _ (List.mem_append_right _ (List.mem_append_right _ (List.mem_append_right _ (List.mem_append_right _ (List.mem_append_right _ (List.mem_append_right _ (hq))))))), rfl⟩)
theorem nc_X11 : RX11 ≠ "java/lang/invoke/MethodHandle" ∧ RX11 ≠ "java/lang/invoke/VarHandle" := ⟨by decide +kernel, by decide +kernel⟩
theorem pn_X11 : plainName RX11 = true := by decide +kernel
theorem nc_X12 : RX12 ≠ "java/lang/invoke/MethodHandle" ∧ RX12 ≠ "java/lang/invoke/VarHandle" := ⟨by decide +kernel, by decide +kernel⟩
theorem pn_X12 : plainName RX12 = true := by decide +kernel
theorem nc_X5 : RX5 ≠ "java/lang/invoke/MethodHandle" ∧ RX5 ≠ "java/lang/invoke/VarHandle" := ⟨by decide +kernel, by decide +kernel⟩
theorem pn_X5 : plainName RX5 = true := by decide +kernel
theorem nc_X10 : RX10 ≠ "java/lang/invoke/MethodHandle" ∧ RX10 ≠ "java/lang/invoke/VarHandle" := ⟨by decide +kernel, by decide +kernel⟩
theorem pn_X10 : plainName RX10 = true := by decide +kernel
theorem nc_X7 : RX7 ≠ "java/lang/invoke/MethodHandle" ∧ RX7 ≠ "java/lang/invoke/VarHandle" := ⟨by decide +kernel, by decide +kernel⟩
theorem pn_X7 : plainName RX7 = true := by decide +kernel
theorem nc_X4 : RX4 ≠ "java/lang/invoke/MethodHandle" ∧ RX4 ≠ "java/lang/invoke/VarHandle" := ⟨by decide +kernel, by decide +kernel⟩
theorem pn_X4 : plainName RX4 = true := by decide +kernel
theorem nc_X1 : RX1 ≠ "java/lang/invoke/MethodHandle" ∧ RX1 ≠ "java/lang/invoke/VarHandle" := ⟨by decide +kernel, by decide +kernel⟩
theorem pn_X1 : plainName RX1 = true := by decide +kernel
theorem nc_X0 : RX0 ≠ "java/lang/invoke/MethodHandle" ∧ RX0 ≠ "java/lang/invoke/VarHandle" := ⟨by decide +kernel, by decide +kernel⟩
theorem pn_X0 : plainName RX0 = true := by decide +kernel
theorem nc_X2 : RX2 ≠ "java/lang/invoke/MethodHandle" ∧ RX2 ≠ "java/lang/invoke/VarHandle" := ⟨by decide +kernel, by decide +kernel⟩
theorem pn_X2 : plainName RX2 = true := by decide +kernel
theorem nc_X3 : RX3 ≠ "java/lang/invoke/MethodHandle" ∧ RX3 ≠ "java/lang/invoke/VarHandle" := ⟨by decide +kernel, by decide +kernel⟩
theorem pn_X3 : plainName RX3 = true := by decide +kernel
theorem nc_X6 : RX6 ≠ "java/lang/invoke/MethodHandle" ∧ RX6 ≠ "java/lang/invoke/VarHandle" := ⟨by decide +kernel, by decide +kernel⟩
theorem pn_X6 : plainName RX6 = true := by decide +kernel
theorem nc_X8 : RX8 ≠ "java/lang/invoke/MethodHandle" ∧ RX8 ≠ "java/lang/invoke/VarHandle" := ⟨by decide +kernel, by decide +kernel⟩
theorem pn_X8 : plainName RX8 = true := by decide +kernel
theorem nc_X9 : RX9 ≠ "java/lang/invoke/MethodHandle" ∧ RX9 ≠ "java/lang/invoke/VarHandle" := ⟨by decide +kernel, by decide +kernel⟩
theorem pn_X9 : plainName RX9 = true := by decide +kernel
theorem nc_J6 : RJ6 ≠ "java/lang/invoke/MethodHandle" ∧ RJ6 ≠ "java/lang/invoke/VarHandle" := ⟨by decide +kernel, by decide +kernel⟩
theorem pn_J6 : plainName RJ6 = true := by decide +kernel
def layC : List xKind := [.inr (11, [4, 0, 5, 21, 44, 46, 49, 55, 56, 60, 66, 0, 0, 0]), .inl (1, 1600), .inr (5, [0, 6, 7, 8, 0, 9, 0, 10, 11, 12, 13, 14, 15, 16, 0, 17, 18, 0, 0, 0]), .inl (0, 6), .inl (0, 6), .inl (0, 6), .inl (0, 6), .inl (0, 10), .inl (0, 10), .inl (0, 10), .inl (0, 10), .inl (0, 10), .inl (0, 10), .inl (0, 10), .inl (0, 36), .inr (10, [19, 0, 20, 0]), .inl (0, 300), .inl (0, 32), .inr (4, [22, 24, 40, 41, 42, 43, 0]), .inr (7, [2, 0, 0, 0, 0, 0, 1, 0, 0]), .inl (1, 0), .inr (5, [0, 25, 26, 27, 0, 28, 0, 29, 30, 31, 32, 33, 34, 35, 0, 36, 37, 0, 0, 0]), .inl (0, 6), .inl (0, 6), .inl (0, 6), .inl (0, 6), .inl (0, 10), .inl (0, 10), .inl (0, 10), .inl (0, 10), .inl (0, 10), .inl (0, 10), .inl (0, 10), .inl (0, 36), .inr (10, [38, 0, 39, 0]), .inl (0, 300), .inl (0, 32), .inr (1, [22, 37]), .inl (3, 6), .inl (3, 6), .inl (3, 10), .inr (0, [5, 45]), .inl (0, 23), .inr (2, [44, 47, 48, 0, 0, 0]), .inl (0, 943), .inl (0, 69), .inr (3, [5, 44, 50, 0, 0, 51, 52, 53, 54, 0, 0, 0]), .inl (0, 10), .inl (0, 64), .inl (0, 64), .inl (1, 1024), .inl (0, 6), .inr (6, [5, 44]), .inr (8, [5, 57, 58, 0, 59, 0, 0]), .inl (0, 6), .inl (0, 6), .inl (0, 6), .inr (9, [5, 61, 62, 63, 64, 65, 0, 0]), .inl (0, 30), .inl (0, 30), .inl (2, 30), .inl (0, 30), .inl (0, 30), .inl (0, 10)]
def zs_b0 : List Nat := [109, 97, 110, 32, 99, 111, 108, 111, 117, 114, 32, 104, 111, 108, 101, 115, 32, 108, 101, 102, 116, 32, 100, 101, 101, 100, 32, 104, 111, 117, 114, 115, 32, 98, 117, 116, 116, 111, 110, 32, 111, 110, 32, 98, 121, 32, 100, 111, 101, 115, 32, 110, 101, 118, 101, 114, 32, 117, 110, 116, 105, 108, 32, 116, 104, 114, 101, 97, 100, 32, 97, 102, 116, 101, 114, 32, 102, 114, 105, 101, 110, 100, 32, 119, 101, 97, 114, 32, 100, 97, 121, 32, 115, 116, 111, 114, 109, 32, 100, 114, 97, 119, 32, 111, 114, 32, 97, 110, 100, 32, 110, 111, 116, 32]
def zs_b1 : List Nat := [59, 40, 41, 60, 62, 61, 43, 45, 42, 47, 37]
def zs_len : List Nat := [114, 11]
def zs_byt : List (List Int32) := [zs_b0.map nI, zs_b1.map nI]
def zs_A (ad : Nat → Nat) : Nat → Prop := fun q => ∃ c, c < layC.length ∧ q = ad c
def zsZ (A : Nat → Prop) (ad : Nat → Nat) (U : State) : Prop := (∃ tx, vk_R RX7 70 tx (ad 1000) U) ∧ (∃ tx, vk_R RX7 60 tx (ad 1001) U) ∧ vk_S 2 zs_len zs_byt (fun i => ad (1000 + i)) (fun i => ad (1002 + i)) A U U.heap ∧ va_Z "java/lang/String" "COMPACT_STRINGS" "Z" (.int 1) A U U.heap ∧ va_Zq "jdk/internal/util/Preconditions" "SIOOBE_FORMATTER" "Ljava/util/function/BiFunction;" A U U.heap
abbrev gC (h : xH) : xG := (h.1, h.2.1, h.2.2.1, h.2.2.2.1, layC, zsZ (zs_A h.2.2.2.1) h.2.2.2.1)
theorem lC_0 (h : xH) : (gC h).2.2.2.2.1[0]? = some (.inr (11, [4, 0, 5, 21, 44, 46, 49, 55, 56, 60, 66, 0, 0, 0])) := rfl
theorem lC_1 (h : xH) : (gC h).2.2.2.2.1[1]? = some (.inl (1, 1600)) := rfl
theorem lC_2 (h : xH) : (gC h).2.2.2.2.1[2]? = some (.inr (5, [0, 6, 7, 8, 0, 9, 0, 10, 11, 12, 13, 14, 15, 16, 0, 17, 18, 0, 0, 0])) := rfl
theorem lC_3 (h : xH) : (gC h).2.2.2.2.1[3]? = some (.inl (0, 6)) := rfl
theorem lC_4 (h : xH) : (gC h).2.2.2.2.1[4]? = some (.inl (0, 6)) := rfl
theorem lC_5 (h : xH) : (gC h).2.2.2.2.1[5]? = some (.inl (0, 6)) := rfl
theorem lC_6 (h : xH) : (gC h).2.2.2.2.1[6]? = some (.inl (0, 6)) := rfl
theorem lC_7 (h : xH) : (gC h).2.2.2.2.1[7]? = some (.inl (0, 10)) := rfl
theorem lC_8 (h : xH) : (gC h).2.2.2.2.1[8]? = some (.inl (0, 10)) := rfl
theorem lC_9 (h : xH) : (gC h).2.2.2.2.1[9]? = some (.inl (0, 10)) := rfl
theorem lC_10 (h : xH) : (gC h).2.2.2.2.1[10]? = some (.inl (0, 10)) := rfl
theorem lC_11 (h : xH) : (gC h).2.2.2.2.1[11]? = some (.inl (0, 10)) := rfl
theorem lC_12 (h : xH) : (gC h).2.2.2.2.1[12]? = some (.inl (0, 10)) := rfl
theorem lC_13 (h : xH) : (gC h).2.2.2.2.1[13]? = some (.inl (0, 10)) := rfl
theorem lC_14 (h : xH) : (gC h).2.2.2.2.1[14]? = some (.inl (0, 36)) := rfl
theorem lC_15 (h : xH) : (gC h).2.2.2.2.1[15]? = some (.inr (10, [19, 0, 20, 0])) := rfl
theorem lC_16 (h : xH) : (gC h).2.2.2.2.1[16]? = some (.inl (0, 300)) := rfl
theorem lC_17 (h : xH) : (gC h).2.2.2.2.1[17]? = some (.inl (0, 32)) := rfl
theorem lC_18 (h : xH) : (gC h).2.2.2.2.1[18]? = some (.inr (4, [22, 24, 40, 41, 42, 43, 0])) := rfl
theorem lC_19 (h : xH) : (gC h).2.2.2.2.1[19]? = some (.inr (7, [2, 0, 0, 0, 0, 0, 1, 0, 0])) := rfl
theorem lC_21 (h : xH) : (gC h).2.2.2.2.1[21]? = some (.inr (5, [0, 25, 26, 27, 0, 28, 0, 29, 30, 31, 32, 33, 34, 35, 0, 36, 37, 0, 0, 0])) := rfl
theorem lC_22 (h : xH) : (gC h).2.2.2.2.1[22]? = some (.inl (0, 6)) := rfl
theorem lC_23 (h : xH) : (gC h).2.2.2.2.1[23]? = some (.inl (0, 6)) := rfl
theorem lC_24 (h : xH) : (gC h).2.2.2.2.1[24]? = some (.inl (0, 6)) := rfl
theorem lC_25 (h : xH) : (gC h).2.2.2.2.1[25]? = some (.inl (0, 6)) := rfl
theorem lC_26 (h : xH) : (gC h).2.2.2.2.1[26]? = some (.inl (0, 10)) := rfl
theorem lC_27 (h : xH) : (gC h).2.2.2.2.1[27]? = some (.inl (0, 10)) := rfl
theorem lC_28 (h : xH) : (gC h).2.2.2.2.1[28]? = some (.inl (0, 10)) := rfl
theorem lC_29 (h : xH) : (gC h).2.2.2.2.1[29]? = some (.inl (0, 10)) := rfl
theorem lC_30 (h : xH) : (gC h).2.2.2.2.1[30]? = some (.inl (0, 10)) := rfl
theorem lC_31 (h : xH) : (gC h).2.2.2.2.1[31]? = some (.inl (0, 10)) := rfl
theorem lC_32 (h : xH) : (gC h).2.2.2.2.1[32]? = some (.inl (0, 10)) := rfl
theorem lC_33 (h : xH) : (gC h).2.2.2.2.1[33]? = some (.inl (0, 36)) := rfl
theorem lC_34 (h : xH) : (gC h).2.2.2.2.1[34]? = some (.inr (10, [38, 0, 39, 0])) := rfl
theorem lC_35 (h : xH) : (gC h).2.2.2.2.1[35]? = some (.inl (0, 300)) := rfl
theorem lC_37 (h : xH) : (gC h).2.2.2.2.1[37]? = some (.inr (1, [22, 37])) := rfl
theorem lC_38 (h : xH) : (gC h).2.2.2.2.1[38]? = some (.inl (3, 6)) := rfl
theorem lC_39 (h : xH) : (gC h).2.2.2.2.1[39]? = some (.inl (3, 6)) := rfl
theorem lC_40 (h : xH) : (gC h).2.2.2.2.1[40]? = some (.inl (3, 10)) := rfl
theorem lC_41 (h : xH) : (gC h).2.2.2.2.1[41]? = some (.inr (0, [5, 45])) := rfl
theorem lC_42 (h : xH) : (gC h).2.2.2.2.1[42]? = some (.inl (0, 23)) := rfl
theorem lC_43 (h : xH) : (gC h).2.2.2.2.1[43]? = some (.inr (2, [44, 47, 48, 0, 0, 0])) := rfl
theorem lC_44 (h : xH) : (gC h).2.2.2.2.1[44]? = some (.inl (0, 943)) := rfl
theorem lC_45 (h : xH) : (gC h).2.2.2.2.1[45]? = some (.inl (0, 69)) := rfl
theorem lC_46 (h : xH) : (gC h).2.2.2.2.1[46]? = some (.inr (3, [5, 44, 50, 0, 0, 51, 52, 53, 54, 0, 0, 0])) := rfl
theorem lC_47 (h : xH) : (gC h).2.2.2.2.1[47]? = some (.inl (0, 10)) := rfl
theorem lC_48 (h : xH) : (gC h).2.2.2.2.1[48]? = some (.inl (0, 64)) := rfl
theorem lC_49 (h : xH) : (gC h).2.2.2.2.1[49]? = some (.inl (0, 64)) := rfl
theorem lC_50 (h : xH) : (gC h).2.2.2.2.1[50]? = some (.inl (1, 1024)) := rfl
theorem lC_51 (h : xH) : (gC h).2.2.2.2.1[51]? = some (.inl (0, 6)) := rfl
theorem lC_52 (h : xH) : (gC h).2.2.2.2.1[52]? = some (.inr (6, [5, 44])) := rfl
theorem lC_53 (h : xH) : (gC h).2.2.2.2.1[53]? = some (.inr (8, [5, 57, 58, 0, 59, 0, 0])) := rfl
theorem lC_54 (h : xH) : (gC h).2.2.2.2.1[54]? = some (.inl (0, 6)) := rfl
theorem lC_57 (h : xH) : (gC h).2.2.2.2.1[57]? = some (.inr (9, [5, 61, 62, 63, 64, 65, 0, 0])) := rfl
theorem lC_58 (h : xH) : (gC h).2.2.2.2.1[58]? = some (.inl (0, 30)) := rfl
theorem lC_59 (h : xH) : (gC h).2.2.2.2.1[59]? = some (.inl (0, 30)) := rfl
theorem lC_60 (h : xH) : (gC h).2.2.2.2.1[60]? = some (.inl (2, 30)) := rfl
theorem lC_61 (h : xH) : (gC h).2.2.2.2.1[61]? = some (.inl (0, 30)) := rfl
theorem lC_62 (h : xH) : (gC h).2.2.2.2.1[62]? = some (.inl (0, 30)) := rfl
theorem lC_63 (h : xH) : (gC h).2.2.2.2.1[63]? = some (.inl (0, 10)) := rfl
def layM : List xKind := [.inr (12, [4, 0, 0, 0, 0, 0, 0, 0, 0, 1, 5, 6, 7, 8, 9, 10, 11, 0, 0, 0, 0, 0, 0, 0, 12, 13, 14, 15, 16, 17, 18, 19, 20, 21, 22, 23, 24, 25, 26, 27, 28, 29, 30, 31, 32, 33, 34, 35, 36, 0, 0, 0, 0, 0, 0, 0, 0, 0, 0, 0, 0, 0, 0, 0, 0, 0, 0, 37, 38, 0, 0, 39, 40, 0, 0, 41, 42, 43, 44, 0, 0, 0, 0, 0, 45, 0, 46, 47, 48, 49, 50, 51, 52, 0, 0, 53, 54]), .inl (0, 1600), .inl (3, 22), .inl (0, 320), .inl (0, 320), .inl (0, 320), .inl (0, 320), .inl (0, 160), .inl (0, 64), .inl (0, 4), .inl (0, 6), .inl (0, 6), .inl (0, 6), .inl (0, 6), .inl (0, 36), .inl (0, 6), .inl (0, 6), .inl (0, 6), .inl (0, 6), .inl (0, 36), .inl (0, 10), .inl (0, 10), .inl (0, 10), .inl (0, 10), .inl (0, 10), .inl (0, 10), .inl (0, 10), .inl (0, 10), .inl (0, 10), .inl (0, 10), .inl (0, 10), .inl (0, 10), .inl (2, 10), .inl (2, 10), .inl (0, 24), .inl (0, 960), .inl (0, 10), .inl (0, 10), .inl (0, 7), .inl (0, 7), .inl (0, 7), .inl (0, 7), .inl (0, 10), .inl (2, 1024), .inl (0, 6), .inl (0, 30), .inl (0, 30), .inl (0, 30), .inl (0, 30), .inl (2, 30), .inl (2, 3), .inl (0, 72)]
abbrev gM (h : xH) : xG := (h.1, h.2.1, h.2.2.1, h.2.2.2.1, layM, h.2.2.2.2)
theorem lM_0 (h : xH) : (gM h).2.2.2.2.1[0]? = some (.inr (12, [4, 0, 0, 0, 0, 0, 0, 0, 0, 1, 5, 6, 7, 8, 9, 10, 11, 0, 0, 0, 0, 0, 0, 0, 12, 13, 14, 15, 16, 17, 18, 19, 20, 21, 22, 23, 24, 25, 26, 27, 28, 29, 30, 31, 32, 33, 34, 35, 36, 0, 0, 0, 0, 0, 0, 0, 0, 0, 0, 0, 0, 0, 0, 0, 0, 0, 0, 37, 38, 0, 0, 39, 40, 0, 0, 41, 42, 43, 44, 0, 0, 0, 0, 0, 45, 0, 46, 47, 48, 49, 50, 51, 52, 0, 0, 53, 54])) := rfl
theorem lM_1 (h : xH) : (gM h).2.2.2.2.1[1]? = some (.inl (0, 1600)) := rfl
theorem lM_2 (h : xH) : (gM h).2.2.2.2.1[2]? = some (.inl (3, 22)) := rfl
theorem lM_3 (h : xH) : (gM h).2.2.2.2.1[3]? = some (.inl (0, 320)) := rfl
theorem lM_4 (h : xH) : (gM h).2.2.2.2.1[4]? = some (.inl (0, 320)) := rfl
theorem lM_5 (h : xH) : (gM h).2.2.2.2.1[5]? = some (.inl (0, 320)) := rfl
theorem lM_6 (h : xH) : (gM h).2.2.2.2.1[6]? = some (.inl (0, 320)) := rfl
theorem lM_7 (h : xH) : (gM h).2.2.2.2.1[7]? = some (.inl (0, 160)) := rfl
theorem lM_8 (h : xH) : (gM h).2.2.2.2.1[8]? = some (.inl (0, 64)) := rfl
theorem lM_9 (h : xH) : (gM h).2.2.2.2.1[9]? = some (.inl (0, 4)) := rfl
theorem lM_10 (h : xH) : (gM h).2.2.2.2.1[10]? = some (.inl (0, 6)) := rfl
theorem lM_11 (h : xH) : (gM h).2.2.2.2.1[11]? = some (.inl (0, 6)) := rfl
theorem lM_12 (h : xH) : (gM h).2.2.2.2.1[12]? = some (.inl (0, 6)) := rfl
theorem lM_13 (h : xH) : (gM h).2.2.2.2.1[13]? = some (.inl (0, 6)) := rfl
theorem lM_14 (h : xH) : (gM h).2.2.2.2.1[14]? = some (.inl (0, 36)) := rfl
theorem lM_15 (h : xH) : (gM h).2.2.2.2.1[15]? = some (.inl (0, 6)) := rfl
theorem lM_16 (h : xH) : (gM h).2.2.2.2.1[16]? = some (.inl (0, 6)) := rfl
theorem lM_17 (h : xH) : (gM h).2.2.2.2.1[17]? = some (.inl (0, 6)) := rfl
theorem lM_18 (h : xH) : (gM h).2.2.2.2.1[18]? = some (.inl (0, 6)) := rfl
theorem lM_19 (h : xH) : (gM h).2.2.2.2.1[19]? = some (.inl (0, 36)) := rfl
theorem lM_20 (h : xH) : (gM h).2.2.2.2.1[20]? = some (.inl (0, 10)) := rfl
theorem lM_21 (h : xH) : (gM h).2.2.2.2.1[21]? = some (.inl (0, 10)) := rfl
theorem lM_22 (h : xH) : (gM h).2.2.2.2.1[22]? = some (.inl (0, 10)) := rfl
theorem lM_23 (h : xH) : (gM h).2.2.2.2.1[23]? = some (.inl (0, 10)) := rfl
theorem lM_24 (h : xH) : (gM h).2.2.2.2.1[24]? = some (.inl (0, 10)) := rfl
theorem lM_25 (h : xH) : (gM h).2.2.2.2.1[25]? = some (.inl (0, 10)) := rfl
theorem lM_26 (h : xH) : (gM h).2.2.2.2.1[26]? = some (.inl (0, 10)) := rfl
theorem lM_27 (h : xH) : (gM h).2.2.2.2.1[27]? = some (.inl (0, 10)) := rfl
theorem lM_28 (h : xH) : (gM h).2.2.2.2.1[28]? = some (.inl (0, 10)) := rfl
theorem lM_29 (h : xH) : (gM h).2.2.2.2.1[29]? = some (.inl (0, 10)) := rfl
theorem lM_30 (h : xH) : (gM h).2.2.2.2.1[30]? = some (.inl (0, 10)) := rfl
theorem lM_31 (h : xH) : (gM h).2.2.2.2.1[31]? = some (.inl (0, 10)) := rfl
theorem lM_32 (h : xH) : (gM h).2.2.2.2.1[32]? = some (.inl (2, 10)) := rfl
theorem lM_33 (h : xH) : (gM h).2.2.2.2.1[33]? = some (.inl (2, 10)) := rfl
theorem lM_34 (h : xH) : (gM h).2.2.2.2.1[34]? = some (.inl (0, 24)) := rfl
theorem lM_35 (h : xH) : (gM h).2.2.2.2.1[35]? = some (.inl (0, 960)) := rfl
theorem lM_36 (h : xH) : (gM h).2.2.2.2.1[36]? = some (.inl (0, 10)) := rfl
theorem lM_37 (h : xH) : (gM h).2.2.2.2.1[37]? = some (.inl (0, 10)) := rfl
theorem lM_38 (h : xH) : (gM h).2.2.2.2.1[38]? = some (.inl (0, 7)) := rfl
theorem lM_39 (h : xH) : (gM h).2.2.2.2.1[39]? = some (.inl (0, 7)) := rfl
theorem lM_40 (h : xH) : (gM h).2.2.2.2.1[40]? = some (.inl (0, 7)) := rfl
theorem lM_41 (h : xH) : (gM h).2.2.2.2.1[41]? = some (.inl (0, 7)) := rfl
theorem lM_42 (h : xH) : (gM h).2.2.2.2.1[42]? = some (.inl (0, 10)) := rfl
theorem lM_43 (h : xH) : (gM h).2.2.2.2.1[43]? = some (.inl (2, 1024)) := rfl
theorem lM_44 (h : xH) : (gM h).2.2.2.2.1[44]? = some (.inl (0, 6)) := rfl
theorem lM_45 (h : xH) : (gM h).2.2.2.2.1[45]? = some (.inl (0, 30)) := rfl
theorem lM_46 (h : xH) : (gM h).2.2.2.2.1[46]? = some (.inl (0, 30)) := rfl
theorem lM_47 (h : xH) : (gM h).2.2.2.2.1[47]? = some (.inl (0, 30)) := rfl
theorem lM_48 (h : xH) : (gM h).2.2.2.2.1[48]? = some (.inl (0, 30)) := rfl
theorem lM_49 (h : xH) : (gM h).2.2.2.2.1[49]? = some (.inl (2, 30)) := rfl
theorem lM_50 (h : xH) : (gM h).2.2.2.2.1[50]? = some (.inl (2, 3)) := rfl
theorem lM_51 (h : xH) : (gM h).2.2.2.2.1[51]? = some (.inl (0, 72)) := rfl
theorem vc_0 : vwCl[0]? = some (RX0, TX0, 2) := rfl
theorem xi_0 : ∀ k, k < 2 → u_lay RX0 TX0 k ∈ x_TT := by
  intro k hk
  match k, hk with
  | 0, _ => exact x_TT_of (tq_2 (List.mem_of_getElem? (i := 38) rfl)) rfl
  | 1, _ => exact x_TT_of (tq_2 (List.mem_of_getElem? (i := 40) rfl)) rfl
  | k + 2, hk => exact absurd hk (by omega)
theorem xc_0 : x_Cls 0 RX0 TX0 2 tyX0 := ⟨rfl, fun w hw => by
  obtain ⟨k, hk, rfl⟩ := List.mem_map.mp hw
  exact xi_0 k (List.mem_range.mp hk), tyX0_ok, nmX0⟩
theorem vc_1 : vwCl[1]? = some (RX1, TX1, 2) := rfl
theorem xi_1 : ∀ k, k < 2 → u_lay RX1 TX1 k ∈ x_TT := by
  intro k hk
  match k, hk with
  | 0, _ => exact x_TT_of (tq_1 (List.mem_of_getElem? (i := 239) rfl)) rfl
  | 1, _ => exact x_TT_of (tq_2 (List.mem_of_getElem? (i := 1) rfl)) rfl
  | k + 2, hk => exact absurd hk (by omega)
theorem xc_1 : x_Cls 1 RX1 TX1 2 tyX1 := ⟨rfl, fun w hw => by
  obtain ⟨k, hk, rfl⟩ := List.mem_map.mp hw
  exact xi_1 k (List.mem_range.mp hk), tyX1_ok, nmX1⟩
theorem vc_2 : vwCl[2]? = some (RX2, TX2, 6) := rfl
theorem xi_2 : ∀ k, k < 6 → u_lay RX2 TX2 k ∈ x_TT := by
  intro k hk
  match k, hk with
  | 0, _ => exact x_TT_of (tq_2 (List.mem_of_getElem? (i := 57) rfl)) rfl
  | 1, _ => exact x_TT_of (tq_2 (List.mem_of_getElem? (i := 59) rfl)) rfl
  | 2, _ => exact x_TT_of (tq_2 (List.mem_of_getElem? (i := 61) rfl)) rfl
  | 3, _ => exact x_TT_of (tq_2 (List.mem_of_getElem? (i := 63) rfl)) rfl
  | 4, _ => exact x_TT_of (tq_2 (List.mem_of_getElem? (i := 65) rfl)) rfl
  | 5, _ => exact x_TT_of (tq_2 (List.mem_of_getElem? (i := 67) rfl)) rfl
  | k + 6, hk => exact absurd hk (by omega)
theorem xc_2 : x_Cls 2 RX2 TX2 6 tyX2 := ⟨rfl, fun w hw => by
  obtain ⟨k, hk, rfl⟩ := List.mem_map.mp hw
  exact xi_2 k (List.mem_range.mp hk), tyX2_ok, nmX2⟩
theorem vc_3 : vwCl[3]? = some (RX3, TX3, 12) := rfl
theorem xi_3 : ∀ k, k < 12 → u_lay RX3 TX3 k ∈ x_TT := by
  intro k hk
  match k, hk with
  | 0, _ => exact x_TT_of (tq_2 (List.mem_of_getElem? (i := 92) rfl)) rfl
  | 1, _ => exact x_TT_of (tq_2 (List.mem_of_getElem? (i := 94) rfl)) rfl
  | 2, _ => exact x_TT_of (tq_2 (List.mem_of_getElem? (i := 96) rfl)) rfl
  | 3, _ => exact x_TT_of (tq_2 (List.mem_of_getElem? (i := 98) rfl)) rfl
  | 4, _ => exact x_TT_of (tq_2 (List.mem_of_getElem? (i := 100) rfl)) rfl
  | 5, _ => exact x_TT_of (tq_2 (List.mem_of_getElem? (i := 102) rfl)) rfl
  | 6, _ => exact x_TT_of (tq_2 (List.mem_of_getElem? (i := 104) rfl)) rfl
  | 7, _ => exact x_TT_of (tq_2 (List.mem_of_getElem? (i := 106) rfl)) rfl
  | 8, _ => exact x_TT_of (tq_2 (List.mem_of_getElem? (i := 108) rfl)) rfl
  | 9, _ => exact x_TT_of (tq_2 (List.mem_of_getElem? (i := 110) rfl)) rfl
  | 10, _ => exact x_TT_of (tq_2 (List.mem_of_getElem? (i := 112) rfl)) rfl
  | 11, _ => exact x_TT_of (tq_2 (List.mem_of_getElem? (i := 114) rfl)) rfl
  | k + 12, hk => exact absurd hk (by omega)
theorem xc_3 : x_Cls 3 RX3 TX3 12 tyX3 := ⟨rfl, fun w hw => by
  obtain ⟨k, hk, rfl⟩ := List.mem_map.mp hw
  exact xi_3 k (List.mem_range.mp hk), tyX3_ok, nmX3⟩
theorem vc_4 : vwCl[4]? = some (RX4, TX4, 7) := rfl
theorem xi_4 : ∀ k, k < 7 → u_lay RX4 TX4 k ∈ x_TT := by
  intro k hk
  match k, hk with
  | 0, _ => exact x_TT_of (tq_2 (List.mem_of_getElem? (i := 13) rfl)) rfl
  | 1, _ => exact x_TT_of (tq_2 (List.mem_of_getElem? (i := 15) rfl)) rfl
  | 2, _ => exact x_TT_of (tq_2 (List.mem_of_getElem? (i := 17) rfl)) rfl
  | 3, _ => exact x_TT_of (tq_2 (List.mem_of_getElem? (i := 19) rfl)) rfl
  | 4, _ => exact x_TT_of (tq_2 (List.mem_of_getElem? (i := 21) rfl)) rfl
  | 5, _ => exact x_TT_of (tq_2 (List.mem_of_getElem? (i := 23) rfl)) rfl
  | 6, _ => exact x_TT_of (tq_2 (List.mem_of_getElem? (i := 25) rfl)) rfl
  | k + 7, hk => exact absurd hk (by omega)
theorem xc_4 : x_Cls 4 RX4 TX4 7 tyX4 := ⟨rfl, fun w hw => by
  obtain ⟨k, hk, rfl⟩ := List.mem_map.mp hw
  exact xi_4 k (List.mem_range.mp hk), tyX4_ok, nmX4⟩
theorem vc_5 : vwCl[5]? = some (RX5, TX5, 20) := rfl
theorem xi_5 : ∀ k, k < 20 → u_lay RX5 TX5 k ∈ x_TT := by
  intro k hk
  match k, hk with
  | 0, _ => exact x_TT_of (tq_1 (List.mem_of_getElem? (i := 140) rfl)) rfl
  | 1, _ => exact x_TT_of (tq_1 (List.mem_of_getElem? (i := 142) rfl)) rfl
  | 2, _ => exact x_TT_of (tq_1 (List.mem_of_getElem? (i := 144) rfl)) rfl
  | 3, _ => exact x_TT_of (tq_1 (List.mem_of_getElem? (i := 146) rfl)) rfl
  | 4, _ => exact x_TT_of (tq_1 (List.mem_of_getElem? (i := 148) rfl)) rfl
  | 5, _ => exact x_TT_of (tq_1 (List.mem_of_getElem? (i := 150) rfl)) rfl
  | 6, _ => exact x_TT_of (tq_1 (List.mem_of_getElem? (i := 152) rfl)) rfl
  | 7, _ => exact x_TT_of (tq_1 (List.mem_of_getElem? (i := 154) rfl)) rfl
  | 8, _ => exact x_TT_of (tq_1 (List.mem_of_getElem? (i := 156) rfl)) rfl
  | 9, _ => exact x_TT_of (tq_1 (List.mem_of_getElem? (i := 158) rfl)) rfl
  | 10, _ => exact x_TT_of (tq_1 (List.mem_of_getElem? (i := 160) rfl)) rfl
  | 11, _ => exact x_TT_of (tq_1 (List.mem_of_getElem? (i := 162) rfl)) rfl
  | 12, _ => exact x_TT_of (tq_1 (List.mem_of_getElem? (i := 164) rfl)) rfl
  | 13, _ => exact x_TT_of (tq_1 (List.mem_of_getElem? (i := 166) rfl)) rfl
  | 14, _ => exact x_TT_of (tq_1 (List.mem_of_getElem? (i := 168) rfl)) rfl
  | 15, _ => exact x_TT_of (tq_1 (List.mem_of_getElem? (i := 170) rfl)) rfl
  | 16, _ => exact x_TT_of (tq_1 (List.mem_of_getElem? (i := 172) rfl)) rfl
  | 17, _ => exact x_TT_of (tq_1 (List.mem_of_getElem? (i := 174) rfl)) rfl
  | 18, _ => exact x_TT_of (tq_1 (List.mem_of_getElem? (i := 176) rfl)) rfl
  | 19, _ => exact x_TT_of (tq_1 (List.mem_of_getElem? (i := 178) rfl)) rfl
  | k + 20, hk => exact absurd hk (by omega)
theorem xc_5 : x_Cls 5 RX5 TX5 20 tyX5 := ⟨rfl, fun w hw => by
  obtain ⟨k, hk, rfl⟩ := List.mem_map.mp hw
  exact xi_5 k (List.mem_range.mp hk), tyX5_ok, nmX5⟩
theorem vc_6 : vwCl[6]? = some (RX6, TX6, 2) := rfl
theorem xi_6 : ∀ k, k < 2 → u_lay RX6 TX6 k ∈ x_TT := by
  intro k hk
  match k, hk with
  | 0, _ => exact x_TT_of (tq_2 (List.mem_of_getElem? (i := 125) rfl)) rfl
  | 1, _ => exact x_TT_of (tq_2 (List.mem_of_getElem? (i := 127) rfl)) rfl
  | k + 2, hk => exact absurd hk (by omega)
theorem xc_6 : x_Cls 6 RX6 TX6 2 tyX6 := ⟨rfl, fun w hw => by
  obtain ⟨k, hk, rfl⟩ := List.mem_map.mp hw
  exact xi_6 k (List.mem_range.mp hk), tyX6_ok, nmX6⟩
theorem vc_7 : vwCl[7]? = some (RX7, TX7, 9) := rfl
theorem xi_7 : ∀ k, k < 9 → u_lay RX7 TX7 k ∈ x_TT := by
  intro k hk
  match k, hk with
  | 0, _ => exact x_TT_of (tq_1 (List.mem_of_getElem? (i := 210) rfl)) rfl
  | 1, _ => exact x_TT_of (tq_1 (List.mem_of_getElem? (i := 212) rfl)) rfl
  | 2, _ => exact x_TT_of (tq_1 (List.mem_of_getElem? (i := 214) rfl)) rfl
  | 3, _ => exact x_TT_of (tq_1 (List.mem_of_getElem? (i := 216) rfl)) rfl
  | 4, _ => exact x_TT_of (tq_1 (List.mem_of_getElem? (i := 218) rfl)) rfl
  | 5, _ => exact x_TT_of (tq_1 (List.mem_of_getElem? (i := 220) rfl)) rfl
  | 6, _ => exact x_TT_of (tq_1 (List.mem_of_getElem? (i := 222) rfl)) rfl
  | 7, _ => exact x_TT_of (tq_1 (List.mem_of_getElem? (i := 224) rfl)) rfl
  | 8, _ => exact x_TT_of (tq_1 (List.mem_of_getElem? (i := 226) rfl)) rfl
  | k + 9, hk => exact absurd hk (by omega)
theorem xc_7 : x_Cls 7 RX7 TX7 9 tyX7 := ⟨rfl, fun w hw => by
  obtain ⟨k, hk, rfl⟩ := List.mem_map.mp hw
  exact xi_7 k (List.mem_range.mp hk), tyX7_ok, nmX7⟩
theorem vc_8 : vwCl[8]? = some (RX8, TX8, 7) := rfl
theorem xi_8 : ∀ k, k < 7 → u_lay RX8 TX8 k ∈ x_TT := by
  intro k hk
  match k, hk with
  | 0, _ => exact x_TT_of (tq_2 (List.mem_of_getElem? (i := 147) rfl)) rfl
  | 1, _ => exact x_TT_of (tq_2 (List.mem_of_getElem? (i := 149) rfl)) rfl
  | 2, _ => exact x_TT_of (tq_2 (List.mem_of_getElem? (i := 151) rfl)) rfl
  | 3, _ => exact x_TT_of (tq_2 (List.mem_of_getElem? (i := 153) rfl)) rfl
  | 4, _ => exact x_TT_of (tq_2 (List.mem_of_getElem? (i := 155) rfl)) rfl
  | 5, _ => exact x_TT_of (tq_2 (List.mem_of_getElem? (i := 157) rfl)) rfl
  | 6, _ => exact x_TT_of (tq_2 (List.mem_of_getElem? (i := 159) rfl)) rfl
  | k + 7, hk => exact absurd hk (by omega)
theorem xc_8 : x_Cls 8 RX8 TX8 7 tyX8 := ⟨rfl, fun w hw => by
  obtain ⟨k, hk, rfl⟩ := List.mem_map.mp hw
  exact xi_8 k (List.mem_range.mp hk), tyX8_ok, nmX8⟩
theorem vc_9 : vwCl[9]? = some (RX9, TX9, 8) := rfl
theorem xi_9 : ∀ k, k < 8 → u_lay RX9 TX9 k ∈ x_TT := by
  intro k hk
  match k, hk with
  | 0, _ => exact x_TT_of (tq_2 (List.mem_of_getElem? (i := 178) rfl)) rfl
  | 1, _ => exact x_TT_of (tq_2 (List.mem_of_getElem? (i := 180) rfl)) rfl
  | 2, _ => exact x_TT_of (tq_2 (List.mem_of_getElem? (i := 182) rfl)) rfl
  | 3, _ => exact x_TT_of (tq_2 (List.mem_of_getElem? (i := 184) rfl)) rfl
  | 4, _ => exact x_TT_of (tq_2 (List.mem_of_getElem? (i := 186) rfl)) rfl
  | 5, _ => exact x_TT_of (tq_2 (List.mem_of_getElem? (i := 188) rfl)) rfl
  | 6, _ => exact x_TT_of (tq_2 (List.mem_of_getElem? (i := 190) rfl)) rfl
  | 7, _ => exact x_TT_of (tq_2 (List.mem_of_getElem? (i := 192) rfl)) rfl
  | k + 8, hk => exact absurd hk (by omega)
theorem xc_9 : x_Cls 9 RX9 TX9 8 tyX9 := ⟨rfl, fun w hw => by
  obtain ⟨k, hk, rfl⟩ := List.mem_map.mp hw
  exact xi_9 k (List.mem_range.mp hk), tyX9_ok, nmX9⟩
theorem vc_10 : vwCl[10]? = some (RX10, TX10, 4) := rfl
theorem xi_10 : ∀ k, k < 4 → u_lay RX10 TX10 k ∈ x_TT := by
  intro k hk
  match k, hk with
  | 0, _ => exact x_TT_of (tq_1 (List.mem_of_getElem? (i := 48) rfl)) rfl
  | 1, _ => exact x_TT_of (tq_1 (List.mem_of_getElem? (i := 50) rfl)) rfl
  | 2, _ => exact x_TT_of (tq_1 (List.mem_of_getElem? (i := 52) rfl)) rfl
  | 3, _ => exact x_TT_of (tq_1 (List.mem_of_getElem? (i := 54) rfl)) rfl
  | k + 4, hk => exact absurd hk (by omega)
theorem xc_10 : x_Cls 10 RX10 TX10 4 tyX10 := ⟨rfl, fun w hw => by
  obtain ⟨k, hk, rfl⟩ := List.mem_map.mp hw
  exact xi_10 k (List.mem_range.mp hk), tyX10_ok, nmX10⟩
theorem vc_11 : vwCl[11]? = some (RX11, TX11, 14) := rfl
theorem xi_11 : ∀ k, k < 14 → u_lay RX11 TX11 k ∈ x_TT := by
  intro k hk
  match k, hk with
  | 0, _ => exact x_TT_of (tq_2 (List.mem_of_getElem? (i := 225) rfl)) rfl
  | 1, _ => exact x_TT_of (tq_2 (List.mem_of_getElem? (i := 227) rfl)) rfl
  | 2, _ => exact x_TT_of (tq_2 (List.mem_of_getElem? (i := 229) rfl)) rfl
  | 3, _ => exact x_TT_of (tq_2 (List.mem_of_getElem? (i := 231) rfl)) rfl
  | 4, _ => exact x_TT_of (tq_2 (List.mem_of_getElem? (i := 233) rfl)) rfl
  | 5, _ => exact x_TT_of (tq_2 (List.mem_of_getElem? (i := 235) rfl)) rfl
  | 6, _ => exact x_TT_of (tq_2 (List.mem_of_getElem? (i := 237) rfl)) rfl
  | 7, _ => exact x_TT_of (tq_2 (List.mem_of_getElem? (i := 239) rfl)) rfl
  | 8, _ => exact x_TT_of (tq_3 (List.mem_of_getElem? (i := 1) rfl)) rfl
  | 9, _ => exact x_TT_of (tq_3 (List.mem_of_getElem? (i := 3) rfl)) rfl
  | 10, _ => exact x_TT_of (tq_3 (List.mem_of_getElem? (i := 5) rfl)) rfl
  | 11, _ => exact x_TT_of (tq_3 (List.mem_of_getElem? (i := 7) rfl)) rfl
  | 12, _ => exact x_TT_of (tq_3 (List.mem_of_getElem? (i := 9) rfl)) rfl
  | 13, _ => exact x_TT_of (tq_3 (List.mem_of_getElem? (i := 11) rfl)) rfl
  | k + 14, hk => exact absurd hk (by omega)
theorem xc_11 : x_Cls 11 RX11 TX11 14 tyX11 := ⟨rfl, fun w hw => by
  obtain ⟨k, hk, rfl⟩ := List.mem_map.mp hw
  exact xi_11 k (List.mem_range.mp hk), tyX11_ok, nmX11⟩
theorem vc_12 : vwCl[12]? = some (RX12, TX12, 97) := rfl
theorem xi_12 : ∀ k, k < 97 → u_lay RX12 TX12 k ∈ x_TT := by
  intro k hk
  match k, hk with
  | 0, _ => exact x_TT_of (tq_6 (List.mem_of_getElem? (i := 151) rfl)) rfl
  | 1, _ => exact x_TT_of (tq_6 (List.mem_of_getElem? (i := 153) rfl)) rfl
  | 2, _ => exact x_TT_of (tq_6 (List.mem_of_getElem? (i := 155) rfl)) rfl
  | 3, _ => exact x_TT_of (tq_6 (List.mem_of_getElem? (i := 157) rfl)) rfl
  | 4, _ => exact x_TT_of (tq_6 (List.mem_of_getElem? (i := 159) rfl)) rfl
  | 5, _ => exact x_TT_of (tq_6 (List.mem_of_getElem? (i := 161) rfl)) rfl
  | 6, _ => exact x_TT_of (tq_6 (List.mem_of_getElem? (i := 163) rfl)) rfl
  | 7, _ => exact x_TT_of (tq_6 (List.mem_of_getElem? (i := 165) rfl)) rfl
  | 8, _ => exact x_TT_of (tq_6 (List.mem_of_getElem? (i := 167) rfl)) rfl
  | 9, _ => exact x_TT_of (tq_6 (List.mem_of_getElem? (i := 169) rfl)) rfl
  | 10, _ => exact x_TT_of (tq_6 (List.mem_of_getElem? (i := 171) rfl)) rfl
  | 11, _ => exact x_TT_of (tq_6 (List.mem_of_getElem? (i := 173) rfl)) rfl
  | 12, _ => exact x_TT_of (tq_6 (List.mem_of_getElem? (i := 175) rfl)) rfl
  | 13, _ => exact x_TT_of (tq_6 (List.mem_of_getElem? (i := 177) rfl)) rfl
  | 14, _ => exact x_TT_of (tq_6 (List.mem_of_getElem? (i := 179) rfl)) rfl
  | 15, _ => exact x_TT_of (tq_6 (List.mem_of_getElem? (i := 181) rfl)) rfl
  | 16, _ => exact x_TT_of (tq_6 (List.mem_of_getElem? (i := 183) rfl)) rfl
  | 17, _ => exact x_TT_of (tq_6 (List.mem_of_getElem? (i := 185) rfl)) rfl
  | 18, _ => exact x_TT_of (tq_6 (List.mem_of_getElem? (i := 187) rfl)) rfl
  | 19, _ => exact x_TT_of (tq_6 (List.mem_of_getElem? (i := 189) rfl)) rfl
  | 20, _ => exact x_TT_of (tq_6 (List.mem_of_getElem? (i := 191) rfl)) rfl
  | 21, _ => exact x_TT_of (tq_6 (List.mem_of_getElem? (i := 193) rfl)) rfl
  | 22, _ => exact x_TT_of (tq_6 (List.mem_of_getElem? (i := 195) rfl)) rfl
  | 23, _ => exact x_TT_of (tq_6 (List.mem_of_getElem? (i := 197) rfl)) rfl
  | 24, _ => exact x_TT_of (tq_6 (List.mem_of_getElem? (i := 199) rfl)) rfl
  | 25, _ => exact x_TT_of (tq_6 (List.mem_of_getElem? (i := 201) rfl)) rfl
  | 26, _ => exact x_TT_of (tq_6 (List.mem_of_getElem? (i := 203) rfl)) rfl
  | 27, _ => exact x_TT_of (tq_6 (List.mem_of_getElem? (i := 205) rfl)) rfl
  | 28, _ => exact x_TT_of (tq_6 (List.mem_of_getElem? (i := 207) rfl)) rfl
  | 29, _ => exact x_TT_of (tq_6 (List.mem_of_getElem? (i := 209) rfl)) rfl
  | 30, _ => exact x_TT_of (tq_6 (List.mem_of_getElem? (i := 211) rfl)) rfl
  | 31, _ => exact x_TT_of (tq_6 (List.mem_of_getElem? (i := 213) rfl)) rfl
  | 32, _ => exact x_TT_of (tq_6 (List.mem_of_getElem? (i := 215) rfl)) rfl
  | 33, _ => exact x_TT_of (tq_6 (List.mem_of_getElem? (i := 217) rfl)) rfl
  | 34, _ => exact x_TT_of (tq_6 (List.mem_of_getElem? (i := 219) rfl)) rfl
  | 35, _ => exact x_TT_of (tq_6 (List.mem_of_getElem? (i := 221) rfl)) rfl
  | 36, _ => exact x_TT_of (tq_6 (List.mem_of_getElem? (i := 223) rfl)) rfl
  | 37, _ => exact x_TT_of (tq_6 (List.mem_of_getElem? (i := 225) rfl)) rfl
  | 38, _ => exact x_TT_of (tq_6 (List.mem_of_getElem? (i := 227) rfl)) rfl
  | 39, _ => exact x_TT_of (tq_6 (List.mem_of_getElem? (i := 229) rfl)) rfl
  | 40, _ => exact x_TT_of (tq_6 (List.mem_of_getElem? (i := 231) rfl)) rfl
  | 41, _ => exact x_TT_of (tq_6 (List.mem_of_getElem? (i := 233) rfl)) rfl
  | 42, _ => exact x_TT_of (tq_6 (List.mem_of_getElem? (i := 235) rfl)) rfl
  | 43, _ => exact x_TT_of (tq_6 (List.mem_of_getElem? (i := 237) rfl)) rfl
  | 44, _ => exact x_TT_of (tq_6 (List.mem_of_getElem? (i := 239) rfl)) rfl
  | 45, _ => exact x_TT_of (tq_7 (List.mem_of_getElem? (i := 1) rfl)) rfl
  | 46, _ => exact x_TT_of (tq_7 (List.mem_of_getElem? (i := 3) rfl)) rfl
  | 47, _ => exact x_TT_of (tq_7 (List.mem_of_getElem? (i := 5) rfl)) rfl
  | 48, _ => exact x_TT_of (tq_7 (List.mem_of_getElem? (i := 7) rfl)) rfl
  | 49, _ => exact x_TT_of (tq_7 (List.mem_of_getElem? (i := 9) rfl)) rfl
  | 50, _ => exact x_TT_of (tq_7 (List.mem_of_getElem? (i := 11) rfl)) rfl
  | 51, _ => exact x_TT_of (tq_7 (List.mem_of_getElem? (i := 13) rfl)) rfl
  | 52, _ => exact x_TT_of (tq_7 (List.mem_of_getElem? (i := 15) rfl)) rfl
  | 53, _ => exact x_TT_of (tq_7 (List.mem_of_getElem? (i := 17) rfl)) rfl
  | 54, _ => exact x_TT_of (tq_7 (List.mem_of_getElem? (i := 19) rfl)) rfl
  | 55, _ => exact x_TT_of (tq_7 (List.mem_of_getElem? (i := 21) rfl)) rfl
  | 56, _ => exact x_TT_of (tq_7 (List.mem_of_getElem? (i := 23) rfl)) rfl
  | 57, _ => exact x_TT_of (tq_7 (List.mem_of_getElem? (i := 25) rfl)) rfl
  | 58, _ => exact x_TT_of (tq_7 (List.mem_of_getElem? (i := 27) rfl)) rfl
  | 59, _ => exact x_TT_of (tq_7 (List.mem_of_getElem? (i := 29) rfl)) rfl
  | 60, _ => exact x_TT_of (tq_7 (List.mem_of_getElem? (i := 31) rfl)) rfl
  | 61, _ => exact x_TT_of (tq_7 (List.mem_of_getElem? (i := 33) rfl)) rfl
  | 62, _ => exact x_TT_of (tq_7 (List.mem_of_getElem? (i := 35) rfl)) rfl
  | 63, _ => exact x_TT_of (tq_7 (List.mem_of_getElem? (i := 37) rfl)) rfl
  | 64, _ => exact x_TT_of (tq_7 (List.mem_of_getElem? (i := 39) rfl)) rfl
  | 65, _ => exact x_TT_of (tq_7 (List.mem_of_getElem? (i := 41) rfl)) rfl
  | 66, _ => exact x_TT_of (tq_7 (List.mem_of_getElem? (i := 43) rfl)) rfl
  | 67, _ => exact x_TT_of (tq_7 (List.mem_of_getElem? (i := 45) rfl)) rfl
  | 68, _ => exact x_TT_of (tq_7 (List.mem_of_getElem? (i := 47) rfl)) rfl
  | 69, _ => exact x_TT_of (tq_7 (List.mem_of_getElem? (i := 49) rfl)) rfl
  | 70, _ => exact x_TT_of (tq_7 (List.mem_of_getElem? (i := 51) rfl)) rfl
  | 71, _ => exact x_TT_of (tq_7 (List.mem_of_getElem? (i := 53) rfl)) rfl
  | 72, _ => exact x_TT_of (tq_7 (List.mem_of_getElem? (i := 55) rfl)) rfl
  | 73, _ => exact x_TT_of (tq_7 (List.mem_of_getElem? (i := 57) rfl)) rfl
  | 74, _ => exact x_TT_of (tq_7 (List.mem_of_getElem? (i := 59) rfl)) rfl
  | 75, _ => exact x_TT_of (tq_7 (List.mem_of_getElem? (i := 61) rfl)) rfl
  | 76, _ => exact x_TT_of (tq_7 (List.mem_of_getElem? (i := 63) rfl)) rfl
  | 77, _ => exact x_TT_of (tq_7 (List.mem_of_getElem? (i := 65) rfl)) rfl
  | 78, _ => exact x_TT_of (tq_7 (List.mem_of_getElem? (i := 67) rfl)) rfl
  | 79, _ => exact x_TT_of (tq_7 (List.mem_of_getElem? (i := 69) rfl)) rfl
  | 80, _ => exact x_TT_of (tq_7 (List.mem_of_getElem? (i := 71) rfl)) rfl
  | 81, _ => exact x_TT_of (tq_7 (List.mem_of_getElem? (i := 73) rfl)) rfl
  | 82, _ => exact x_TT_of (tq_7 (List.mem_of_getElem? (i := 75) rfl)) rfl
  | 83, _ => exact x_TT_of (tq_7 (List.mem_of_getElem? (i := 77) rfl)) rfl
  | 84, _ => exact x_TT_of (tq_7 (List.mem_of_getElem? (i := 79) rfl)) rfl
  | 85, _ => exact x_TT_of (tq_7 (List.mem_of_getElem? (i := 81) rfl)) rfl
  | 86, _ => exact x_TT_of (tq_7 (List.mem_of_getElem? (i := 83) rfl)) rfl
  | 87, _ => exact x_TT_of (tq_7 (List.mem_of_getElem? (i := 85) rfl)) rfl
  | 88, _ => exact x_TT_of (tq_7 (List.mem_of_getElem? (i := 87) rfl)) rfl
  | 89, _ => exact x_TT_of (tq_7 (List.mem_of_getElem? (i := 89) rfl)) rfl
  | 90, _ => exact x_TT_of (tq_7 (List.mem_of_getElem? (i := 91) rfl)) rfl
  | 91, _ => exact x_TT_of (tq_7 (List.mem_of_getElem? (i := 93) rfl)) rfl
  | 92, _ => exact x_TT_of (tq_7 (List.mem_of_getElem? (i := 95) rfl)) rfl
  | 93, _ => exact x_TT_of (tq_7 (List.mem_of_getElem? (i := 97) rfl)) rfl
  | 94, _ => exact x_TT_of (tq_7 (List.mem_of_getElem? (i := 99) rfl)) rfl
  | 95, _ => exact x_TT_of (tq_7 (List.mem_of_getElem? (i := 101) rfl)) rfl
  | 96, _ => exact x_TT_of (tq_7 (List.mem_of_getElem? (i := 103) rfl)) rfl
  | k + 97, hk => exact absurd hk (by omega)
theorem xc_12 : x_Cls 12 RX12 TX12 97 tyX12 := ⟨rfl, fun w hw => by
  obtain ⟨k, hk, rfl⟩ := List.mem_map.mp hw
  exact xi_12 k (List.mem_range.mp hk), tyX12_ok, nmX12⟩
end
