section
theorem nc_J0 : RJ0 ≠ "java/lang/invoke/MethodHandle" ∧ RJ0 ≠ "java/lang/invoke/VarHandle" := ⟨by decide +kernel, by decide +kernel⟩
theorem pn_J0 : plainName RJ0 = true := by decide +kernel
theorem nc_J1 : RJ1 ≠ "java/lang/invoke/MethodHandle" ∧ RJ1 ≠ "java/lang/invoke/VarHandle" := ⟨by decide +kernel, by decide +kernel⟩
theorem pn_J1 : plainName RJ1 = true := by decide +kernel
theorem nc_J3 : RJ3 ≠ "java/lang/invoke/MethodHandle" ∧ RJ3 ≠ "java/lang/invoke/VarHandle" := ⟨by decide +kernel, by decide +kernel⟩
theorem pn_J3 : plainName RJ3 = true := by decide +kernel
abbrev mYJ0_length_8abf5 : xY := (yJ0_length_8abf5, cJ0_length_8abf5, 1, (some .int))
def tbJ0_length_8abf5 : List (Nat × Instr × Nat) := [(0, .aload_n 0, 1), (1, .getfield 9, 3), (4, .arraylength, 1), (5, .aload_n 0, 1), (6, .invokevirtual 335, 3), (9, .ishr, 1), (10, .ireturn, 1)]
theorem tdJ0_length_8abf5 : x_dec cJ0_length_8abf5 tbJ0_length_8abf5 = true := by decide +kernel
abbrev mYJ0_charAt_5068e : xY := (yJ0_charAt_5068e, cJ0_charAt_5068e, 2, (some .char))
def tbJ0_charAt_5068e : List (Nat × Instr × Nat) := [(0, .aload_n 0, 1), (1, .invokevirtual 492, 3), (4, .ifCond .eq 12, 3), (7, .aload_n 0, 1), (8, .getfield 9, 3), (11, .iload_n 1, 1), (12, .invokestatic 495, 3), (15, .ireturn, 1), (16, .aload_n 0, 1), (17, .getfield 9, 3), (20, .iload_n 1, 1), (21, .invokestatic 498, 3), (24, .ireturn, 1)]
theorem tdJ0_charAt_5068e : x_dec cJ0_charAt_5068e tbJ0_charAt_5068e = true := by decide +kernel
abbrev mYJ0_indexOf_0f7a4 : xY := (yJ0_indexOf_0f7a4, cJ0_indexOf_0f7a4, 2, (some .int))
def tbJ0_indexOf_0f7a4 : List (Nat × Instr × Nat) := [(0, .aload_n 0, 1), (1, .iload_n 1, 1), (2, .iconst 0, 1), (3, .invokevirtual 633, 3), (6, .ireturn, 1)]
theorem tdJ0_indexOf_0f7a4 : x_dec cJ0_indexOf_0f7a4 tbJ0_indexOf_0f7a4 = true := by decide +kernel
abbrev mYJ0_indexOf_7cf53 : xY := (yJ0_indexOf_7cf53, cJ0_indexOf_7cf53, 3, (some .int))
def tbJ0_indexOf_7cf53 : List (Nat × Instr × Nat) := [(0, .aload_n 0, 1), (1, .invokevirtual 492, 3), (4, .ifCond .eq 19, 3), (7, .aload_n 0, 1), (8, .getfield 9, 3), (11, .iload_n 1, 1), (12, .iload_n 2, 1), (13, .aload_n 0, 1), (14, .invokevirtual 505, 3), (17, .invokestatic 637, 3), (20, .goto 16, 3), (23, .aload_n 0, 1), (24, .getfield 9, 3), (27, .iload_n 1, 1), (28, .iload_n 2, 1), (29, .aload_n 0, 1), (30, .invokevirtual 505, 3), (33, .invokestatic 640, 3), (36, .ireturn, 1)]
theorem tdJ0_indexOf_7cf53 : x_dec cJ0_indexOf_7cf53 tbJ0_indexOf_7cf53 = true := by decide +kernel
abbrev mYJ0_coder_7d493 : xY := (yJ0_coder_7d493, cJ0_coder_7d493, 1, (some .byte))
def tbJ0_coder_7d493 : List (Nat × Instr × Nat) := [(0, .getstatic 38, 3), (3, .ifCond .eq 10, 3), (6, .aload_n 0, 1), (7, .getfield 15, 3), (10, .goto 4, 3), (13, .iconst 1, 1), (14, .ireturn, 1)]
theorem tdJ0_coder_7d493 : x_dec cJ0_coder_7d493 tbJ0_coder_7d493 = true := by decide +kernel
abbrev mYJ0_isLatin1_aae02 : xY := (yJ0_isLatin1_aae02, cJ0_isLatin1_aae02, 1, (some .boolean))
def tbJ0_isLatin1_aae02 : List (Nat × Instr × Nat) := [(0, .getstatic 38, 3), (3, .ifCond .eq 14, 3), (6, .aload_n 0, 1), (7, .getfield 15, 3), (10, .ifCond .ne 7, 3), (13, .iconst 1, 1), (14, .goto 4, 3), (17, .iconst 0, 1), (18, .ireturn, 1)]
theorem tdJ0_isLatin1_aae02 : x_dec cJ0_isLatin1_aae02 tbJ0_isLatin1_aae02 = true := by decide +kernel
abbrev mYJ0_checkIndex_df160 : xY := (yJ0_checkIndex_df160, cJ0_checkIndex_df160, 2, none)
def tbJ0_checkIndex_df160 : List (Nat × Instr × Nat) := [(0, .iload_n 0, 1), (1, .iload_n 1, 1), (2, .getstatic 1053, 3), (5, .invokestatic 1059, 3), (8, .pop, 1), (9, .return_, 1)]
theorem tdJ0_checkIndex_df160 : x_dec cJ0_checkIndex_df160 tbJ0_checkIndex_df160 = true := by decide +kernel
abbrev mYJ1_charAt_3b067 : xY := (yJ1_charAt_3b067, cJ1_charAt_3b067, 2, (some .char))
def tbJ1_charAt_3b067 : List (Nat × Instr × Nat) := [(0, .iload_n 1, 1), (1, .aload_n 0, 1), (2, .arraylength, 1), (3, .invokestatic 9, 3), (6, .aload_n 0, 1), (7, .iload_n 1, 1), (8, .baload, 1), (9, .sipush 255, 3), (12, .iand, 1), (13, .i2c, 1), (14, .ireturn, 1)]
theorem tdJ1_charAt_3b067 : x_dec cJ1_charAt_3b067 tbJ1_charAt_3b067 = true := by decide +kernel
abbrev mYJ1_canEncode_9a6ad : xY := (yJ1_canEncode_9a6ad, cJ1_canEncode_9a6ad, 1, (some .boolean))
def tbJ1_canEncode_9a6ad : List (Nat × Instr × Nat) := [(0, .iload_n 0, 1), (1, .ifCond .lt 14, 3), (4, .iload_n 0, 1), (5, .sipush 255, 3), (8, .if_icmp .gt 7, 3), (11, .iconst 1, 1), (12, .goto 4, 3), (15, .iconst 0, 1), (16, .ireturn, 1)]
theorem tdJ1_canEncode_9a6ad : x_dec cJ1_canEncode_9a6ad tbJ1_canEncode_9a6ad = true := by decide +kernel
abbrev mYJ1_indexOf_4cfef : xY := (yJ1_indexOf_4cfef, cJ1_indexOf_4cfef, 4, (some .int))
def tbJ1_indexOf_4cfef : List (Nat × Instr × Nat) := [(0, .iload_n 1, 1), (1, .invokestatic 88, 3), (4, .ifCond .ne 5, 3), (7, .iconst (-1), 1), (8, .ireturn, 1), (9, .iload_n 2, 1), (10, .iconst 0, 1), (11, .invokestatic 92, 3), (14, .istore_n 2, 1), (15, .iload_n 3, 1), (16, .aload_n 0, 1), (17, .arraylength, 1), (18, .invokestatic 38, 3), (21, .istore_n 3, 1), (22, .iload_n 2, 1), (23, .iload_n 3, 1), (24, .if_icmp .lt 5, 3), (27, .iconst (-1), 1), (28, .ireturn, 1), (29, .aload_n 0, 1), (30, .iload_n 1, 1), (31, .iload_n 2, 1), (32, .iload_n 3, 1), (33, .invokestatic 95, 3), (36, .ireturn, 1)]
theorem tdJ1_indexOf_4cfef : x_dec cJ1_indexOf_4cfef tbJ1_indexOf_4cfef = true := by decide +kernel
abbrev mYJ1_indexOfChar_4cfef : xY := (yJ1_indexOfChar_4cfef, cJ1_indexOfChar_4cfef, 6, (some .int))
def tbJ1_indexOfChar_4cfef : List (Nat × Instr × Nat) := [(0, .iload_n 1, 1), (1, .i2b, 1), (2, .istore 4, 2), (4, .iload_n 2, 1), (5, .istore 5, 2), (7, .iload 5, 2), (9, .iload_n 3, 1), (10, .if_icmp .ge 21, 3), (13, .aload_n 0, 1), (14, .iload 5, 2), (16, .baload, 1), (17, .iload 4, 2), (19, .if_icmp .ne 6, 3), (22, .iload 5, 2), (24, .ireturn, 1), (25, .iinc 5 1, 3), (28, .goto (-21), 3), (31, .iconst (-1), 1), (32, .ireturn, 1)]
theorem tdJ1_indexOfChar_4cfef : x_dec cJ1_indexOfChar_4cfef tbJ1_indexOfChar_4cfef = true := by decide +kernel
abbrev mYJ3_checkIndex_8e157 : xY := (yJ3_checkIndex_8e157, cJ3_checkIndex_8e157, 3, (some .int))
def tbJ3_checkIndex_8e157 : List (Nat × Instr × Nat) := [(0, .iload_n 0, 1), (1, .ifCond .lt 8, 3), (4, .iload_n 0, 1), (5, .iload_n 1, 1), (6, .if_icmp .lt 10, 3), (9, .aload_n 2, 1), (10, .iload_n 0, 1), (11, .iload_n 1, 1), (12, .invokestatic 95, 3), (15, .athrow, 1), (16, .iload_n 0, 1), (17, .ireturn, 1)]
theorem tdJ3_checkIndex_8e157 : x_dec cJ3_checkIndex_8e157 tbJ3_checkIndex_8e157 = true := by decide +kernel
theorem pd_IILjavautilfunctionBiFunction_I : (parseMethodDescriptor "(IILjava/util/function/BiFunction;)I").map (fun d => d.parameters.length) = some 3 := by decide +kernel
theorem pd_I_C : (parseMethodDescriptor "(I)C").map (fun d => d.parameters.length) = some 1 := by decide +kernel
theorem pd__B : (parseMethodDescriptor "()B").map (fun d => d.parameters.length) = some 0 := by decide +kernel
theorem pd_aBIII_I : (parseMethodDescriptor "([BIII)I").map (fun d => d.parameters.length) = some 4 := by decide +kernel
theorem pd_aBI_C : (parseMethodDescriptor "([BI)C").map (fun d => d.parameters.length) = some 2 := by decide +kernel
theorem wc_J0_charAt_5068e : Cond.code yJ0_charAt_5068e cJ0_charAt_5068e 2 (some .char) ∈ x_TT := x_TT_of (tq_3 (List.mem_of_getElem? (i := 68) rfl)) rfl
theorem wc_J0_checkIndex_df160 : Cond.code yJ0_checkIndex_df160 cJ0_checkIndex_df160 2 none ∈ x_TT := x_TT_of (tq_3 (List.mem_of_getElem? (i := 78) rfl)) rfl
theorem wc_J0_coder_7d493 : Cond.code yJ0_coder_7d493 cJ0_coder_7d493 1 (some .byte) ∈ x_TT := x_TT_of (tq_3 (List.mem_of_getElem? (i := 62) rfl)) rfl
theorem wc_J0_indexOf_0f7a4 : Cond.code yJ0_indexOf_0f7a4 cJ0_indexOf_0f7a4 2 (some .int) ∈ x_TT := x_TT_of (tq_3 (List.mem_of_getElem? (i := 111) rfl)) rfl
theorem wc_J0_indexOf_7cf53 : Cond.code yJ0_indexOf_7cf53 cJ0_indexOf_7cf53 3 (some .int) ∈ x_TT := x_TT_of (tq_3 (List.mem_of_getElem? (i := 115) rfl)) rfl
theorem wc_J0_isLatin1_aae02 : Cond.code yJ0_isLatin1_aae02 cJ0_isLatin1_aae02 1 (some .boolean) ∈ x_TT := x_TT_of (tq_3 (List.mem_of_getElem? (i := 72) rfl)) rfl
theorem wc_J0_length_8abf5 : Cond.code yJ0_length_8abf5 cJ0_length_8abf5 1 (some .int) ∈ x_TT := x_TT_of (tq_3 (List.mem_of_getElem? (i := 58) rfl)) rfl
theorem wc_J1_canEncode_9a6ad : Cond.code yJ1_canEncode_9a6ad cJ1_canEncode_9a6ad 1 (some .boolean) ∈ x_TT := x_TT_of (tq_3 (List.mem_of_getElem? (i := 122) rfl)) rfl
theorem wc_J1_charAt_3b067 : Cond.code yJ1_charAt_3b067 cJ1_charAt_3b067 2 (some .char) ∈ x_TT := x_TT_of (tq_3 (List.mem_of_getElem? (i := 75) rfl)) rfl
theorem wc_J1_indexOfChar_4cfef : Cond.code yJ1_indexOfChar_4cfef cJ1_indexOfChar_4cfef 6 (some .int) ∈ x_TT := x_TT_of (tq_3 (List.mem_of_getElem? (i := 129) rfl)) rfl
theorem wc_J1_indexOf_4cfef : Cond.code yJ1_indexOf_4cfef cJ1_indexOf_4cfef 4 (some .int) ∈ x_TT := x_TT_of (tq_3 (List.mem_of_getElem? (i := 119) rfl)) rfl
theorem wc_J3_checkIndex_8e157 : Cond.code yJ3_checkIndex_8e157 cJ3_checkIndex_8e157 3 (some .int) ∈ x_TT := x_TT_of (tq_3 (List.mem_of_getElem? (i := 83) rfl)) rfl
theorem we_J0_charAt_5068e : Cond.selects RJ0 yJ0_charAt_5068e yJ0_charAt_5068e ∈ x_TT := x_TT_of (tq_3 (List.mem_of_getElem? (i := 67) rfl)) rfl
theorem we_J0_coder_7d493 : Cond.selects RJ0 yJ0_coder_7d493 yJ0_coder_7d493 ∈ x_TT := x_TT_of (tq_3 (List.mem_of_getElem? (i := 61) rfl)) rfl
theorem we_J0_indexOf_0f7a4 : Cond.selects RJ0 yJ0_indexOf_0f7a4 yJ0_indexOf_0f7a4 ∈ x_TT := x_TT_of (tq_3 (List.mem_of_getElem? (i := 110) rfl)) rfl
theorem we_J0_indexOf_7cf53 : Cond.selects RJ0 yJ0_indexOf_7cf53 yJ0_indexOf_7cf53 ∈ x_TT := x_TT_of (tq_3 (List.mem_of_getElem? (i := 114) rfl)) rfl
theorem we_J0_isLatin1_aae02 : Cond.selects RJ0 yJ0_isLatin1_aae02 yJ0_isLatin1_aae02 ∈ x_TT := x_TT_of (tq_3 (List.mem_of_getElem? (i := 71) rfl)) rfl
theorem we_J0_length_8abf5 : Cond.selects RJ0 yJ0_length_8abf5 yJ0_length_8abf5 ∈ x_TT := x_TT_of (tq_3 (List.mem_of_getElem? (i := 57) rfl)) rfl
theorem wf_J0_1053 : Cond.fieldLink RJ0 1053 "jdk/internal/util/Preconditions" "SIOOBE_FORMATTER" "Ljava/util/function/BiFunction;" ∈ x_TT := x_TT_of (tq_3 (List.mem_of_getElem? (i := 79) rfl)) rfl
theorem wf_J0_15 : Cond.fieldLink RJ0 15 "java/lang/String" "coder" "B" ∈ x_TT := x_TT_of (tq_9 (List.mem_of_getElem? (i := 93) rfl)) rfl
theorem wf_J0_38 : Cond.fieldLink RJ0 38 "java/lang/String" "COMPACT_STRINGS" "Z" ∈ x_TT := x_TT_of (tq_3 (List.mem_of_getElem? (i := 63) rfl)) rfl
theorem wf_J0_9 : Cond.fieldLink RJ0 9 "java/lang/String" "value" "[B" ∈ x_TT := x_TT_of (tq_9 (List.mem_of_getElem? (i := 92) rfl)) rfl
theorem wi_J0 : Cond.initialized RJ0 ∈ x_TT := x_TT_of (tq_1 (List.mem_of_getElem? (i := 16) rfl)) rfl
theorem wi_J1 : Cond.initialized RJ1 ∈ x_TT := x_TT_of (tq_1 (List.mem_of_getElem? (i := 17) rfl)) rfl
theorem wi_J3 : Cond.initialized RJ3 ∈ x_TT := x_TT_of (tq_1 (List.mem_of_getElem? (i := 18) rfl)) rfl
theorem wm_J0_1059 : Cond.methodLink RJ0 1059 yJ3_checkIndex_8e157 ∈ x_TT := x_TT_of (tq_3 (List.mem_of_getElem? (i := 81) rfl)) rfl
theorem wm_J0_335 : Cond.methodLink RJ0 335 yJ0_coder_7d493 ∈ x_TT := x_TT_of (tq_3 (List.mem_of_getElem? (i := 59) rfl)) rfl
theorem wm_J0_492 : Cond.methodLink RJ0 492 yJ0_isLatin1_aae02 ∈ x_TT := x_TT_of (tq_3 (List.mem_of_getElem? (i := 69) rfl)) rfl
theorem wm_J0_495 : Cond.methodLink RJ0 495 yJ1_charAt_3b067 ∈ x_TT := x_TT_of (tq_3 (List.mem_of_getElem? (i := 73) rfl)) rfl
theorem wm_J0_505 : Cond.methodLink RJ0 505 yJ0_length_8abf5 ∈ x_TT := x_TT_of (tq_3 (List.mem_of_getElem? (i := 116) rfl)) rfl
theorem wm_J0_633 : Cond.methodLink RJ0 633 yJ0_indexOf_7cf53 ∈ x_TT := x_TT_of (tq_3 (List.mem_of_getElem? (i := 112) rfl)) rfl
theorem wm_J0_637 : Cond.methodLink RJ0 637 yJ1_indexOf_4cfef ∈ x_TT := x_TT_of (tq_3 (List.mem_of_getElem? (i := 117) rfl)) rfl
theorem wm_J1_38 : Cond.methodLink RJ1 38 yJ9_min_7cf53 ∈ x_TT := x_TT_of (tq_3 (List.mem_of_getElem? (i := 126) rfl)) rfl
theorem wm_J1_88 : Cond.methodLink RJ1 88 yJ1_canEncode_9a6ad ∈ x_TT := x_TT_of (tq_3 (List.mem_of_getElem? (i := 120) rfl)) rfl
theorem wm_J1_9 : Cond.methodLink RJ1 9 yJ0_checkIndex_df160 ∈ x_TT := x_TT_of (tq_3 (List.mem_of_getElem? (i := 76) rfl)) rfl
theorem wm_J1_92 : Cond.methodLink RJ1 92 yJ9_max_7cf53 ∈ x_TT := x_TT_of (tq_3 (List.mem_of_getElem? (i := 123) rfl)) rfl
theorem wm_J1_95 : Cond.methodLink RJ1 95 yJ1_indexOfChar_4cfef ∈ x_TT := x_TT_of (tq_3 (List.mem_of_getElem? (i := 127) rfl)) rfl
theorem wt_J0_checkIndex_df160 : Cond.static yJ0_checkIndex_df160 ∈ x_TT := x_TT_of (tq_3 (List.mem_of_getElem? (i := 77) rfl)) rfl
theorem wt_J1_canEncode_9a6ad : Cond.static yJ1_canEncode_9a6ad ∈ x_TT := x_TT_of (tq_3 (List.mem_of_getElem? (i := 121) rfl)) rfl
theorem wt_J1_charAt_3b067 : Cond.static yJ1_charAt_3b067 ∈ x_TT := x_TT_of (tq_3 (List.mem_of_getElem? (i := 74) rfl)) rfl
theorem wt_J1_indexOfChar_4cfef : Cond.static yJ1_indexOfChar_4cfef ∈ x_TT := x_TT_of (tq_3 (List.mem_of_getElem? (i := 128) rfl)) rfl
theorem wt_J1_indexOf_4cfef : Cond.static yJ1_indexOf_4cfef ∈ x_TT := x_TT_of (tq_3 (List.mem_of_getElem? (i := 118) rfl)) rfl
theorem wt_J3_checkIndex_8e157 : Cond.static yJ3_checkIndex_8e157 ∈ x_TT := x_TT_of (tq_3 (List.mem_of_getElem? (i := 82) rfl)) rfl
theorem wv_J0_charAt_5068e : Cond.instanceMethod yJ0_charAt_5068e ∈ x_TT := x_TT_of (tq_3 (List.mem_of_getElem? (i := 66) rfl)) rfl
theorem wv_J0_coder_7d493 : Cond.instanceMethod yJ0_coder_7d493 ∈ x_TT := x_TT_of (tq_3 (List.mem_of_getElem? (i := 60) rfl)) rfl
theorem wv_J0_indexOf_0f7a4 : Cond.instanceMethod yJ0_indexOf_0f7a4 ∈ x_TT := x_TT_of (tq_3 (List.mem_of_getElem? (i := 109) rfl)) rfl
theorem wv_J0_indexOf_7cf53 : Cond.instanceMethod yJ0_indexOf_7cf53 ∈ x_TT := x_TT_of (tq_3 (List.mem_of_getElem? (i := 113) rfl)) rfl
theorem wv_J0_isLatin1_aae02 : Cond.instanceMethod yJ0_isLatin1_aae02 ∈ x_TT := x_TT_of (tq_3 (List.mem_of_getElem? (i := 70) rfl)) rfl
theorem wv_J0_length_8abf5 : Cond.instanceMethod yJ0_length_8abf5 ∈ x_TT := x_TT_of (tq_3 (List.mem_of_getElem? (i := 56) rfl)) rfl
theorem mi_J0_charAt_5068e : x_MV mYJ0_charAt_5068e 1 := ⟨⟨wc_J0_charAt_5068e, wi_J0, by decide, nc_J0.1, nc_J0.2, pd_I_C⟩, wv_J0_charAt_5068e, we_J0_charAt_5068e⟩
theorem mi_J0_checkIndex_df160 : x_MS mYJ0_checkIndex_df160 2 := ⟨⟨wc_J0_checkIndex_df160, wi_J0, by decide, nc_J0.1, nc_J0.2, pd_II_V⟩, wt_J0_checkIndex_df160⟩
theorem mi_J0_coder_7d493 : x_MV mYJ0_coder_7d493 0 := ⟨⟨wc_J0_coder_7d493, wi_J0, by decide, nc_J0.1, nc_J0.2, pd__B⟩, wv_J0_coder_7d493, we_J0_coder_7d493⟩
theorem mi_J0_indexOf_0f7a4 : x_MV mYJ0_indexOf_0f7a4 1 := ⟨⟨wc_J0_indexOf_0f7a4, wi_J0, by decide, nc_J0.1, nc_J0.2, pd_I_I⟩, wv_J0_indexOf_0f7a4, we_J0_indexOf_0f7a4⟩
theorem mi_J0_indexOf_7cf53 : x_MV mYJ0_indexOf_7cf53 2 := ⟨⟨wc_J0_indexOf_7cf53, wi_J0, by decide, nc_J0.1, nc_J0.2, pd_II_I⟩, wv_J0_indexOf_7cf53, we_J0_indexOf_7cf53⟩
theorem mi_J0_isLatin1_aae02 : x_MV mYJ0_isLatin1_aae02 0 := ⟨⟨wc_J0_isLatin1_aae02, wi_J0, by decide, nc_J0.1, nc_J0.2, pd__Z⟩, wv_J0_isLatin1_aae02, we_J0_isLatin1_aae02⟩
theorem mi_J0_length_8abf5 : x_MV mYJ0_length_8abf5 0 := ⟨⟨wc_J0_length_8abf5, wi_J0, by decide, nc_J0.1, nc_J0.2, pd__I⟩, wv_J0_length_8abf5, we_J0_length_8abf5⟩
theorem mi_J1_canEncode_9a6ad : x_MS mYJ1_canEncode_9a6ad 1 := ⟨⟨wc_J1_canEncode_9a6ad, wi_J1, by decide, nc_J1.1, nc_J1.2, pd_I_Z⟩, wt_J1_canEncode_9a6ad⟩
theorem mi_J1_charAt_3b067 : x_MS mYJ1_charAt_3b067 2 := ⟨⟨wc_J1_charAt_3b067, wi_J1, by decide, nc_J1.1, nc_J1.2, pd_aBI_C⟩, wt_J1_charAt_3b067⟩
theorem mi_J1_indexOfChar_4cfef : x_MS mYJ1_indexOfChar_4cfef 4 := ⟨⟨wc_J1_indexOfChar_4cfef, wi_J1, by decide, nc_J1.1, nc_J1.2, pd_aBIII_I⟩, wt_J1_indexOfChar_4cfef⟩
theorem mi_J1_indexOf_4cfef : x_MS mYJ1_indexOf_4cfef 4 := ⟨⟨wc_J1_indexOf_4cfef, wi_J1, by decide, nc_J1.1, nc_J1.2, pd_aBIII_I⟩, wt_J1_indexOf_4cfef⟩
theorem mi_J3_checkIndex_8e157 : x_MS mYJ3_checkIndex_8e157 3 := ⟨⟨wc_J3_checkIndex_8e157, wi_J3, by decide, nc_J3.1, nc_J3.2, pd_IILjavautilfunctionBiFunction_I⟩, wt_J3_checkIndex_8e157⟩
end
