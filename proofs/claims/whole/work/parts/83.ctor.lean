section
abbrev mYX10_init : xY := (yX10_init, cX10_init, 1, none)
def tbX10_init : List (Nat × Instr × Nat) := [(0, .aload_n 0, 1), (1, .invokespecial 3, 3), (4, .aload_n 0, 1), (5, .sipush 300, 3), (8, .newarray .int, 2), (10, .putfield 9, 3), (13, .aload_n 0, 1), (14, .bipush 32, 2), (16, .newarray .int, 2), (18, .putfield 15, 3), (21, .return_, 1)]
theorem tdX10_init : x_dec cX10_init tbX10_init = true := by decide +kernel
abbrev mYX5_init : xY := (yX5_init, cX5_init, 1, none)
def tbX5_init : List (Nat × Instr × Nat) := [(0, .aload_n 0, 1), (1, .invokespecial 3, 3), (4, .aload_n 0, 1), (5, .bipush 6, 2), (7, .newarray .int, 2), (9, .putfield 9, 3), (12, .aload_n 0, 1), (13, .bipush 6, 2), (15, .newarray .int, 2), (17, .putfield 15, 3), (20, .aload_n 0, 1), (21, .bipush 6, 2), (23, .newarray .int, 2), (25, .putfield 18, 3), (28, .aload_n 0, 1), (29, .bipush 6, 2), (31, .newarray .int, 2), (33, .putfield 21, 3), (36, .aload_n 0, 1), (37, .bipush 10, 2), (39, .newarray .int, 2), (41, .putfield 24, 3), (44, .aload_n 0, 1), (45, .bipush 10, 2), (47, .newarray .int, 2), (49, .putfield 27, 3), (52, .aload_n 0, 1), (53, .bipush 10, 2), (55, .newarray .int, 2), (57, .putfield 30, 3), (60, .aload_n 0, 1), (61, .bipush 10, 2), (63, .newarray .int, 2), (65, .putfield 33, 3), (68, .aload_n 0, 1), (69, .bipush 10, 2), (71, .newarray .int, 2), (73, .putfield 36, 3), (76, .aload_n 0, 1), (77, .bipush 10, 2), (79, .newarray .int, 2), (81, .putfield 39, 3), (84, .aload_n 0, 1), (85, .bipush 10, 2), (87, .newarray .int, 2), (89, .putfield 42, 3), (92, .aload_n 0, 1), (93, .bipush 36, 2), (95, .newarray .int, 2), (97, .putfield 45, 3), (100, .aload_n 0, 1), (101, .new 48, 3), (104, .dup, 1), (105, .invokespecial 50, 3), (108, .putfield 51, 3), (111, .aload_n 0, 1), (112, .invokevirtual 55, 3), (115, .return_, 1)]
theorem tdX5_init : x_dec cX5_init tbX5_init = true := by decide +kernel
abbrev mYX7_init : xY := (yX7_init, cX7_init, 1, none)
def tbX7_init : List (Nat × Instr × Nat) := [(0, .aload_n 0, 1), (1, .invokespecial 3, 3), (4, .aload_n 0, 1), (5, .iconst 0, 1), (6, .newarray .byte, 2), (8, .putfield 9, 3), (11, .return_, 1)]
theorem tdX7_init : x_dec cX7_init tbX7_init = true := by decide +kernel
abbrev mYX1_init : xY := (yX1_init, cX1_init, 3, none)
def tbX1_init : List (Nat × Instr × Nat) := [(0, .aload_n 0, 1), (1, .invokespecial 3, 3), (4, .aload_n 0, 1), (5, .aload_n 1, 1), (6, .putfield 9, 3), (9, .aload_n 0, 1), (10, .aload_n 2, 1), (11, .putfield 15, 3), (14, .return_, 1)]
theorem tdX1_init : x_dec cX1_init tbX1_init = true := by decide +kernel
abbrev mYX4_init : xY := (yX4_init, cX4_init, 1, none)
def tbX4_init : List (Nat × Instr × Nat) := [(0, .aload_n 0, 1), (1, .invokespecial 3, 3), (4, .aload_n 0, 1), (5, .new 9, 3), (8, .dup, 1), (9, .invokespecial 11, 3), (12, .putfield 12, 3), (15, .aload_n 0, 1), (16, .new 18, 3), (19, .dup, 1), (20, .invokespecial 20, 3), (23, .putfield 21, 3), (26, .aload_n 0, 1), (27, .new 25, 3), (30, .dup, 1), (31, .aload_n 0, 1), (32, .getfield 12, 3), (35, .aload_n 0, 1), (36, .getfield 21, 3), (39, .getfield 27, 3), (42, .invokespecial 31, 3), (45, .putfield 34, 3), (48, .aload_n 0, 1), (49, .bipush 6, 2), (51, .newarray .long, 2), (53, .putfield 38, 3), (56, .aload_n 0, 1), (57, .bipush 6, 2), (59, .newarray .long, 2), (61, .putfield 42, 3), (64, .aload_n 0, 1), (65, .bipush 10, 2), (67, .newarray .long, 2), (69, .putfield 45, 3), (72, .return_, 1)]
theorem tdX4_init : x_dec cX4_init tbX4_init = true := by decide +kernel
abbrev mYX0_init : xY := (yX0_init, cX0_init, 2, none)
def tbX0_init : List (Nat × Instr × Nat) := [(0, .aload_n 0, 1), (1, .invokespecial 5, 3), (4, .aload_n 0, 1), (5, .bipush 23, 2), (7, .newarray .int, 2), (9, .putfield 11, 3), (12, .aload_n 0, 1), (13, .aload_n 1, 1), (14, .putfield 15, 3), (17, .return_, 1)]
theorem tdX0_init : x_dec cX0_init tbX0_init = true := by decide +kernel
abbrev mYX2_init : xY := (yX2_init, cX2_init, 2, none)
def tbX2_init : List (Nat × Instr × Nat) := [(0, .aload_n 0, 1), (1, .invokespecial 3, 3), (4, .aload_n 0, 1), (5, .sipush 943, 3), (8, .newarray .int, 2), (10, .putfield 11, 3), (13, .aload_n 0, 1), (14, .bipush 69, 2), (16, .newarray .int, 2), (18, .putfield 17, 3), (21, .aload_n 0, 1), (22, .aload_n 1, 1), (23, .putfield 20, 3), (26, .return_, 1)]
theorem tdX2_init : x_dec cX2_init tbX2_init = true := by decide +kernel
abbrev mYX3_init : xY := (yX3_init, cX3_init, 3, none)
def tbX3_init : List (Nat × Instr × Nat) := [(0, .aload_n 0, 1), (1, .invokespecial 3, 3), (4, .aload_n 0, 1), (5, .bipush 10, 2), (7, .newarray .int, 2), (9, .putfield 9, 3), (12, .aload_n 0, 1), (13, .bipush 64, 2), (15, .newarray .int, 2), (17, .putfield 15, 3), (20, .aload_n 0, 1), (21, .bipush 64, 2), (23, .newarray .int, 2), (25, .putfield 18, 3), (28, .aload_n 0, 1), (29, .sipush 1024, 3), (32, .newarray .byte, 2), (34, .putfield 21, 3), (37, .aload_n 0, 1), (38, .bipush 6, 2), (40, .newarray .int, 2), (42, .putfield 25, 3), (45, .aload_n 0, 1), (46, .aload_n 1, 1), (47, .putfield 28, 3), (50, .aload_n 0, 1), (51, .aload_n 2, 1), (52, .putfield 32, 3), (55, .return_, 1)]
theorem tdX3_init : x_dec cX3_init tbX3_init = true := by decide +kernel
abbrev mYX6_init : xY := (yX6_init, cX6_init, 3, none)
def tbX6_init : List (Nat × Instr × Nat) := [(0, .aload_n 0, 1), (1, .invokespecial 3, 3), (4, .aload_n 0, 1), (5, .aload_n 1, 1), (6, .putfield 9, 3), (9, .aload_n 0, 1), (10, .aload_n 2, 1), (11, .putfield 15, 3), (14, .return_, 1)]
theorem tdX6_init : x_dec cX6_init tbX6_init = true := by decide +kernel
abbrev mYX8_init : xY := (yX8_init, cX8_init, 2, none)
def tbX8_init : List (Nat × Instr × Nat) := [(0, .aload_n 0, 1), (1, .invokespecial 3, 3), (4, .aload_n 0, 1), (5, .bipush 6, 2), (7, .newarray .int, 2), (9, .putfield 9, 3), (12, .aload_n 0, 1), (13, .bipush 6, 2), (15, .newarray .int, 2), (17, .putfield 15, 3), (20, .aload_n 0, 1), (21, .bipush 6, 2), (23, .newarray .int, 2), (25, .putfield 18, 3), (28, .aload_n 0, 1), (29, .aload_n 1, 1), (30, .putfield 21, 3), (33, .return_, 1)]
theorem tdX8_init : x_dec cX8_init tbX8_init = true := by decide +kernel
abbrev mYX9_init : xY := (yX9_init, cX9_init, 2, none)
def tbX9_init : List (Nat × Instr × Nat) := [(0, .aload_n 0, 1), (1, .invokespecial 3, 3), (4, .aload_n 0, 1), (5, .bipush 30, 2), (7, .newarray .int, 2), (9, .putfield 9, 3), (12, .aload_n 0, 1), (13, .bipush 30, 2), (15, .newarray .int, 2), (17, .putfield 15, 3), (20, .aload_n 0, 1), (21, .bipush 30, 2), (23, .newarray .boolean, 2), (25, .putfield 18, 3), (28, .aload_n 0, 1), (29, .bipush 30, 2), (31, .newarray .int, 2), (33, .putfield 22, 3), (36, .aload_n 0, 1), (37, .bipush 30, 2), (39, .newarray .int, 2), (41, .putfield 25, 3), (44, .aload_n 0, 1), (45, .aload_n 1, 1), (46, .putfield 28, 3), (49, .return_, 1)]
theorem tdX9_init : x_dec cX9_init tbX9_init = true := by decide +kernel
abbrev mYX11_init : xY := (yX11_init, cX11_init, 1, none)
def tbX11_init : List (Nat × Instr × Nat) := [(0, .aload_n 0, 1), (1, .invokespecial 1, 3), (4, .aload_n 0, 1), (5, .sipush 1600, 3), (8, .newarray .byte, 2), (10, .putfield 9, 3), (13, .aload_n 0, 1), (14, .new 13, 3), (17, .dup, 1), (18, .invokespecial 15, 3), (21, .putfield 16, 3), (24, .aload_n 0, 1), (25, .new 20, 3), (28, .dup, 1), (29, .invokespecial 22, 3), (32, .putfield 23, 3), (35, .aload_n 0, 1), (36, .new 27, 3), (39, .dup, 1), (40, .aload_n 0, 1), (41, .getfield 16, 3), (44, .invokespecial 29, 3), (47, .putfield 32, 3), (50, .aload_n 0, 1), (51, .new 36, 3), (54, .dup, 1), (55, .aload_n 0, 1), (56, .getfield 32, 3), (59, .invokespecial 38, 3), (62, .putfield 41, 3), (65, .aload_n 0, 1), (66, .new 45, 3), (69, .dup, 1), (70, .aload_n 0, 1), (71, .getfield 16, 3), (74, .aload_n 0, 1), (75, .getfield 32, 3), (78, .invokespecial 47, 3), (81, .putfield 50, 3), (84, .aload_n 0, 1), (85, .new 54, 3), (88, .dup, 1), (89, .aload_n 0, 1), (90, .getfield 16, 3), (93, .aload_n 0, 1), (94, .getfield 32, 3), (97, .invokespecial 56, 3), (100, .putfield 57, 3), (103, .aload_n 0, 1), (104, .new 61, 3), (107, .dup, 1), (108, .aload_n 0, 1), (109, .getfield 16, 3), (112, .invokespecial 63, 3), (115, .putfield 64, 3), (118, .aload_n 0, 1), (119, .new 68, 3), (122, .dup, 1), (123, .aload_n 0, 1), (124, .getfield 16, 3), (127, .invokespecial 70, 3), (130, .putfield 71, 3), (133, .aload_n 0, 1), (134, .bipush 10, 2), (136, .newarray .int, 2), (138, .putfield 75, 3), (141, .aload_n 0, 1), (142, .iconst (-1), 1), (143, .putfield 79, 3), (146, .aload_n 0, 1), (147, .getfield 32, 3), (150, .invokevirtual 83, 3), (153, .aload_n 0, 1), (154, .getfield 41, 3), (157, .invokevirtual 86, 3), (160, .return_, 1)]
theorem tdX11_init : x_dec cX11_init tbX11_init = true := by decide +kernel
abbrev mYX12_init : xY := (yX12_init, cX12_init, 1, none)
def tbX12_init : List (Nat × Instr × Nat) := [(0, .aload_n 0, 1), (1, .invokespecial 1, 3), (4, .aload_n 0, 1), (5, .sipush 1600, 3), (8, .newarray .int, 2), (10, .putfield 7, 3), (13, .aload_n 0, 1), (14, .iconst (-1), 1), (15, .putfield 13, 3), (18, .aload_n 0, 1), (19, .bipush 22, 2), (21, .newarray .long, 2), (23, .putfield 17, 3), (26, .aload_n 0, 1), (27, .sipush 320, 3), (30, .newarray .int, 2), (32, .putfield 21, 3), (35, .aload_n 0, 1), (36, .sipush 320, 3), (39, .newarray .int, 2), (41, .putfield 24, 3), (44, .aload_n 0, 1), (45, .sipush 320, 3), (48, .newarray .int, 2), (50, .putfield 27, 3), (53, .aload_n 0, 1), (54, .sipush 320, 3), (57, .newarray .int, 2), (59, .putfield 30, 3), (62, .aload_n 0, 1), (63, .sipush 160, 3), (66, .newarray .int, 2), (68, .putfield 33, 3), (71, .aload_n 0, 1), (72, .bipush 64, 2), (74, .newarray .int, 2), (76, .putfield 36, 3), (79, .aload_n 0, 1), (80, .iconst 4, 1), (81, .newarray .int, 2), (83, .putfield 39, 3), (86, .aload_n 0, 1), (87, .bipush 6, 2), (89, .newarray .int, 2), (91, .putfield 42, 3), (94, .aload_n 0, 1), (95, .bipush 6, 2), (97, .newarray .int, 2), (99, .putfield 45, 3), (102, .aload_n 0, 1), (103, .bipush 6, 2), (105, .newarray .int, 2), (107, .putfield 48, 3), (110, .aload_n 0, 1), (111, .bipush 6, 2), (113, .newarray .int, 2), (115, .putfield 51, 3), (118, .aload_n 0, 1), (119, .bipush 36, 2), (121, .newarray .int, 2), (123, .putfield 54, 3), (126, .aload_n 0, 1), (127, .bipush 6, 2), (129, .newarray .int, 2), (131, .putfield 57, 3), (134, .aload_n 0, 1), (135, .bipush 6, 2), (137, .newarray .int, 2), (139, .putfield 60, 3), (142, .aload_n 0, 1), (143, .bipush 6, 2), (145, .newarray .int, 2), (147, .putfield 63, 3), (150, .aload_n 0, 1), (151, .bipush 6, 2), (153, .newarray .int, 2), (155, .putfield 66, 3), (158, .aload_n 0, 1), (159, .bipush 36, 2), (161, .newarray .int, 2), (163, .putfield 69, 3), (166, .aload_n 0, 1), (167, .bipush 10, 2), (169, .newarray .int, 2), (171, .putfield 72, 3), (174, .aload_n 0, 1), (175, .bipush 10, 2), (177, .newarray .int, 2), (179, .putfield 75, 3), (182, .aload_n 0, 1), (183, .bipush 10, 2), (185, .newarray .int, 2), (187, .putfield 78, 3), (190, .aload_n 0, 1), (191, .bipush 10, 2), (193, .newarray .int, 2), (195, .putfield 81, 3), (198, .aload_n 0, 1), (199, .bipush 10, 2), (201, .newarray .int, 2), (203, .putfield 84, 3), (206, .aload_n 0, 1), (207, .bipush 10, 2), (209, .newarray .int, 2), (211, .putfield 87, 3), (214, .aload_n 0, 1), (215, .bipush 10, 2), (217, .newarray .int, 2), (219, .putfield 90, 3), (222, .aload_n 0, 1), (223, .bipush 10, 2), (225, .newarray .int, 2), (227, .putfield 93, 3), (230, .aload_n 0, 1), (231, .bipush 10, 2), (233, .newarray .int, 2), (235, .putfield 96, 3), (238, .aload_n 0, 1), (239, .bipush 10, 2), (241, .newarray .int, 2), (243, .putfield 99, 3), (246, .aload_n 0, 1), (247, .bipush 10, 2), (249, .newarray .int, 2), (251, .putfield 102, 3), (254, .aload_n 0, 1), (255, .bipush 10, 2), (257, .newarray .int, 2), (259, .putfield 105, 3), (262, .aload_n 0, 1), (263, .bipush 10, 2), (265, .newarray .boolean, 2), (267, .putfield 108, 3), (270, .aload_n 0, 1), (271, .bipush 10, 2), (273, .newarray .boolean, 2), (275, .putfield 112, 3), (278, .aload_n 0, 1), (279, .bipush 8, 2), (281, .putfield 115, 3), (284, .aload_n 0, 1), (285, .bipush 24, 2), (287, .newarray .int, 2), (289, .putfield 118, 3), (292, .aload_n 0, 1), (293, .sipush 960, 3), (296, .newarray .int, 2), (298, .putfield 121, 3), (301, .aload_n 0, 1), (302, .bipush 10, 2), (304, .newarray .int, 2), (306, .putfield 124, 3), (309, .aload_n 0, 1), (310, .bipush 10, 2), (312, .newarray .int, 2), (314, .putfield 127, 3), (317, .aload_n 0, 1), (318, .bipush 7, 2), (320, .newarray .int, 2), (322, .putfield 130, 3), (325, .aload_n 0, 1), (326, .bipush 7, 2), (328, .newarray .int, 2), (330, .putfield 133, 3), (333, .aload_n 0, 1), (334, .bipush 7, 2), (336, .newarray .int, 2), (338, .putfield 136, 3), (341, .aload_n 0, 1), (342, .bipush 7, 2), (344, .newarray .int, 2), (346, .putfield 139, 3), (349, .aload_n 0, 1), (350, .bipush 10, 2), (352, .newarray .int, 2), (354, .putfield 142, 3), (357, .aload_n 0, 1), (358, .sipush 1024, 3), (361, .newarray .boolean, 2), (363, .putfield 145, 3), (366, .aload_n 0, 1), (367, .bipush 6, 2), (369, .newarray .int, 2), (371, .putfield 148, 3), (374, .aload_n 0, 1), (375, .bipush 30, 2), (377, .newarray .int, 2), (379, .putfield 151, 3), (382, .aload_n 0, 1), (383, .bipush 30, 2), (385, .newarray .int, 2), (387, .putfield 154, 3), (390, .aload_n 0, 1), (391, .bipush 30, 2), (393, .newarray .int, 2), (395, .putfield 157, 3), (398, .aload_n 0, 1), (399, .bipush 30, 2), (401, .newarray .int, 2), (403, .putfield 160, 3), (406, .aload_n 0, 1), (407, .bipush 30, 2), (409, .newarray .boolean, 2), (411, .putfield 163, 3), (414, .aload_n 0, 1), (415, .iconst 3, 1), (416, .newarray .boolean, 2), (418, .putfield 166, 3), (421, .aload_n 0, 1), (422, .bipush 72, 2), (424, .newarray .int, 2), (426, .putfield 169, 3), (429, .return_, 1)]
theorem tdX12_init : x_dec cX12_init tbX12_init = true := by decide +kernel
theorem pd_LOathButtonsTokensLOathButtonsWear_V : (parseMethodDescriptor "(LOathButtons$Tokens;LOathButtons$Wear;)V").map (fun d => d.parameters.length) = some 2 := by decide +kernel
theorem pd_LOathButtonsCoats_V : (parseMethodDescriptor "(LOathButtons$Coats;)V").map (fun d => d.parameters.length) = some 1 := by decide +kernel
theorem pd_LOathButtonsRegimentLOathButtonsCoats_V : (parseMethodDescriptor "(LOathButtons$Regiment;LOathButtons$Coats;)V").map (fun d => d.parameters.length) = some 2 := by decide +kernel
theorem wv_obj : Cond.instanceMethod Lib.objectInit ∈ x_TT := x_TT_of (tq_1 (List.mem_of_getElem? (i := 28) rfl)) rfl
theorem wc_obj : Cond.code Lib.objectInit ⟨#[0xb1]⟩ 1 none ∈ x_TT := x_TT_of (tq_1 (List.mem_of_getElem? (i := 29) rfl)) rfl
theorem wa_int : Cond.arrayClass .int ∈ x_TT := x_TT_of (tq_1 (List.mem_of_getElem? (i := 58) rfl)) rfl
theorem wa_byte : Cond.arrayClass .byte ∈ x_TT := x_TT_of (tq_1 (List.mem_of_getElem? (i := 57) rfl)) rfl
theorem wa_boolean : Cond.arrayClass .boolean ∈ x_TT := x_TT_of (tq_2 (List.mem_of_getElem? (i := 195) rfl)) rfl
theorem wa_long : Cond.arrayClass .long ∈ x_TT := x_TT_of (tq_2 (List.mem_of_getElem? (i := 28) rfl)) rfl
theorem wc_X10_init : Cond.code yX10_init cX10_init 1 none ∈ x_TT := x_TT_of (tq_1 (List.mem_of_getElem? (i := 40) rfl)) rfl
theorem wv_X10_init : Cond.instanceMethod yX10_init ∈ x_TT := x_TT_of (tq_1 (List.mem_of_getElem? (i := 39) rfl)) rfl
theorem wm_X10_3 : Cond.methodLink RX10 3 Lib.objectInit ∈ x_TT := x_TT_of (tq_1 (List.mem_of_getElem? (i := 41) rfl)) rfl
theorem wc_X5_init : Cond.code yX5_init cX5_init 1 none ∈ x_TT := x_TT_of (tq_1 (List.mem_of_getElem? (i := 34) rfl)) rfl
theorem wv_X5_init : Cond.instanceMethod yX5_init ∈ x_TT := x_TT_of (tq_1 (List.mem_of_getElem? (i := 33) rfl)) rfl
theorem wm_X5_3 : Cond.methodLink RX5 3 Lib.objectInit ∈ x_TT := x_TT_of (tq_1 (List.mem_of_getElem? (i := 35) rfl)) rfl
theorem wl_X5_48 : Cond.classLink RX5 48 RX10 ∈ x_TT := x_TT_of (tq_1 (List.mem_of_getElem? (i := 36) rfl)) rfl
theorem wn_X10 : Cond.instantiable RX10 4 ∈ x_TT := x_TT_of (tq_1 (List.mem_of_getElem? (i := 37) rfl)) rfl
theorem wm_X5_55 : Cond.methodLink RX5 55 yX5_empty ∈ x_TT := x_TT_of (tq_1 (List.mem_of_getElem? (i := 59) rfl)) rfl
theorem wc_X7_init : Cond.code yX7_init cX7_init 1 none ∈ x_TT := x_TT_of (tq_1 (List.mem_of_getElem? (i := 191) rfl)) rfl
theorem wv_X7_init : Cond.instanceMethod yX7_init ∈ x_TT := x_TT_of (tq_1 (List.mem_of_getElem? (i := 190) rfl)) rfl
theorem wm_X7_3 : Cond.methodLink RX7 3 Lib.objectInit ∈ x_TT := x_TT_of (tq_1 (List.mem_of_getElem? (i := 192) rfl)) rfl
theorem wc_X1_init : Cond.code yX1_init cX1_init 3 none ∈ x_TT := x_TT_of (tq_1 (List.mem_of_getElem? (i := 235) rfl)) rfl
theorem wv_X1_init : Cond.instanceMethod yX1_init ∈ x_TT := x_TT_of (tq_1 (List.mem_of_getElem? (i := 234) rfl)) rfl
theorem wm_X1_3 : Cond.methodLink RX1 3 Lib.objectInit ∈ x_TT := x_TT_of (tq_1 (List.mem_of_getElem? (i := 236) rfl)) rfl
theorem wc_X4_init : Cond.code yX4_init cX4_init 1 none ∈ x_TT := x_TT_of (tq_1 (List.mem_of_getElem? (i := 185) rfl)) rfl
theorem wv_X4_init : Cond.instanceMethod yX4_init ∈ x_TT := x_TT_of (tq_1 (List.mem_of_getElem? (i := 184) rfl)) rfl
theorem wm_X4_3 : Cond.methodLink RX4 3 Lib.objectInit ∈ x_TT := x_TT_of (tq_1 (List.mem_of_getElem? (i := 186) rfl)) rfl
theorem wl_X4_9 : Cond.classLink RX4 9 RX7 ∈ x_TT := x_TT_of (tq_1 (List.mem_of_getElem? (i := 187) rfl)) rfl
theorem wn_X7 : Cond.instantiable RX7 9 ∈ x_TT := x_TT_of (tq_1 (List.mem_of_getElem? (i := 188) rfl)) rfl
theorem wl_X4_18 : Cond.classLink RX4 18 RX5 ∈ x_TT := x_TT_of (tq_1 (List.mem_of_getElem? (i := 229) rfl)) rfl
theorem wn_X5 : Cond.instantiable RX5 20 ∈ x_TT := x_TT_of (tq_1 (List.mem_of_getElem? (i := 31) rfl)) rfl
theorem wm_X4_20 : Cond.methodLink RX4 20 yX5_init ∈ x_TT := x_TT_of (tq_1 (List.mem_of_getElem? (i := 230) rfl)) rfl
theorem wl_X4_25 : Cond.classLink RX4 25 RX1 ∈ x_TT := x_TT_of (tq_1 (List.mem_of_getElem? (i := 231) rfl)) rfl
theorem wn_X1 : Cond.instantiable RX1 2 ∈ x_TT := x_TT_of (tq_1 (List.mem_of_getElem? (i := 232) rfl)) rfl
theorem wf_X4_27 : Cond.fieldLink RX4 27 "OathButtons$Regiment" "wear" "LOathButtons$Wear;" ∈ x_TT := x_TT_of (tq_1 (List.mem_of_getElem? (i := 125) rfl)) rfl
theorem wm_X4_31 : Cond.methodLink RX4 31 yX1_init ∈ x_TT := x_TT_of (tq_1 (List.mem_of_getElem? (i := 233) rfl)) rfl
theorem wc_X0_init : Cond.code yX0_init cX0_init 2 none ∈ x_TT := x_TT_of (tq_2 (List.mem_of_getElem? (i := 33) rfl)) rfl
theorem wv_X0_init : Cond.instanceMethod yX0_init ∈ x_TT := x_TT_of (tq_2 (List.mem_of_getElem? (i := 32) rfl)) rfl
theorem wm_X0_5 : Cond.methodLink RX0 5 Lib.objectInit ∈ x_TT := x_TT_of (tq_2 (List.mem_of_getElem? (i := 34) rfl)) rfl
theorem wc_X2_init : Cond.code yX2_init cX2_init 2 none ∈ x_TT := x_TT_of (tq_2 (List.mem_of_getElem? (i := 47) rfl)) rfl
theorem wv_X2_init : Cond.instanceMethod yX2_init ∈ x_TT := x_TT_of (tq_2 (List.mem_of_getElem? (i := 46) rfl)) rfl
theorem wm_X2_3 : Cond.methodLink RX2 3 Lib.objectInit ∈ x_TT := x_TT_of (tq_2 (List.mem_of_getElem? (i := 48) rfl)) rfl
theorem wc_X3_init : Cond.code yX3_init cX3_init 3 none ∈ x_TT := x_TT_of (tq_2 (List.mem_of_getElem? (i := 74) rfl)) rfl
theorem wv_X3_init : Cond.instanceMethod yX3_init ∈ x_TT := x_TT_of (tq_2 (List.mem_of_getElem? (i := 73) rfl)) rfl
theorem wm_X3_3 : Cond.methodLink RX3 3 Lib.objectInit ∈ x_TT := x_TT_of (tq_2 (List.mem_of_getElem? (i := 75) rfl)) rfl
theorem wc_X6_init : Cond.code yX6_init cX6_init 3 none ∈ x_TT := x_TT_of (tq_2 (List.mem_of_getElem? (i := 121) rfl)) rfl
theorem wv_X6_init : Cond.instanceMethod yX6_init ∈ x_TT := x_TT_of (tq_2 (List.mem_of_getElem? (i := 120) rfl)) rfl
theorem wm_X6_3 : Cond.methodLink RX6 3 Lib.objectInit ∈ x_TT := x_TT_of (tq_2 (List.mem_of_getElem? (i := 122) rfl)) rfl
theorem wc_X8_init : Cond.code yX8_init cX8_init 2 none ∈ x_TT := x_TT_of (tq_2 (List.mem_of_getElem? (i := 134) rfl)) rfl
theorem wv_X8_init : Cond.instanceMethod yX8_init ∈ x_TT := x_TT_of (tq_2 (List.mem_of_getElem? (i := 133) rfl)) rfl
theorem wm_X8_3 : Cond.methodLink RX8 3 Lib.objectInit ∈ x_TT := x_TT_of (tq_2 (List.mem_of_getElem? (i := 135) rfl)) rfl
theorem wc_X9_init : Cond.code yX9_init cX9_init 2 none ∈ x_TT := x_TT_of (tq_2 (List.mem_of_getElem? (i := 166) rfl)) rfl
theorem wv_X9_init : Cond.instanceMethod yX9_init ∈ x_TT := x_TT_of (tq_2 (List.mem_of_getElem? (i := 165) rfl)) rfl
theorem wm_X9_3 : Cond.methodLink RX9 3 Lib.objectInit ∈ x_TT := x_TT_of (tq_2 (List.mem_of_getElem? (i := 167) rfl)) rfl
theorem wc_X11_init : Cond.code yX11_init cX11_init 1 none ∈ x_TT := x_TT_of (tq_1 (List.mem_of_getElem? (i := 26) rfl)) rfl
theorem wv_X11_init : Cond.instanceMethod yX11_init ∈ x_TT := x_TT_of (tq_1 (List.mem_of_getElem? (i := 25) rfl)) rfl
theorem wm_X11_1 : Cond.methodLink RX11 1 Lib.objectInit ∈ x_TT := x_TT_of (tq_1 (List.mem_of_getElem? (i := 27) rfl)) rfl
theorem wl_X11_13 : Cond.classLink RX11 13 RX5 ∈ x_TT := x_TT_of (tq_1 (List.mem_of_getElem? (i := 30) rfl)) rfl
theorem wm_X11_15 : Cond.methodLink RX11 15 yX5_init ∈ x_TT := x_TT_of (tq_1 (List.mem_of_getElem? (i := 32) rfl)) rfl
theorem wl_X11_20 : Cond.classLink RX11 20 RX4 ∈ x_TT := x_TT_of (tq_1 (List.mem_of_getElem? (i := 181) rfl)) rfl
theorem wn_X4 : Cond.instantiable RX4 7 ∈ x_TT := x_TT_of (tq_1 (List.mem_of_getElem? (i := 182) rfl)) rfl
theorem wl_X11_27 : Cond.classLink RX11 27 RX0 ∈ x_TT := x_TT_of (tq_2 (List.mem_of_getElem? (i := 29) rfl)) rfl
theorem wn_X0 : Cond.instantiable RX0 2 ∈ x_TT := x_TT_of (tq_2 (List.mem_of_getElem? (i := 30) rfl)) rfl
theorem wm_X11_29 : Cond.methodLink RX11 29 yX0_init ∈ x_TT := x_TT_of (tq_2 (List.mem_of_getElem? (i := 31) rfl)) rfl
theorem wl_X11_36 : Cond.classLink RX11 36 RX2 ∈ x_TT := x_TT_of (tq_2 (List.mem_of_getElem? (i := 43) rfl)) rfl
theorem wn_X2 : Cond.instantiable RX2 6 ∈ x_TT := x_TT_of (tq_2 (List.mem_of_getElem? (i := 44) rfl)) rfl
theorem wm_X11_38 : Cond.methodLink RX11 38 yX2_init ∈ x_TT := x_TT_of (tq_2 (List.mem_of_getElem? (i := 45) rfl)) rfl
theorem wl_X11_45 : Cond.classLink RX11 45 RX3 ∈ x_TT := x_TT_of (tq_2 (List.mem_of_getElem? (i := 70) rfl)) rfl
theorem wn_X3 : Cond.instantiable RX3 12 ∈ x_TT := x_TT_of (tq_2 (List.mem_of_getElem? (i := 71) rfl)) rfl
theorem wm_X11_47 : Cond.methodLink RX11 47 yX3_init ∈ x_TT := x_TT_of (tq_2 (List.mem_of_getElem? (i := 72) rfl)) rfl
theorem wl_X11_54 : Cond.classLink RX11 54 RX6 ∈ x_TT := x_TT_of (tq_2 (List.mem_of_getElem? (i := 117) rfl)) rfl
theorem wn_X6 : Cond.instantiable RX6 2 ∈ x_TT := x_TT_of (tq_2 (List.mem_of_getElem? (i := 118) rfl)) rfl
theorem wm_X11_56 : Cond.methodLink RX11 56 yX6_init ∈ x_TT := x_TT_of (tq_2 (List.mem_of_getElem? (i := 119) rfl)) rfl
theorem wl_X11_61 : Cond.classLink RX11 61 RX8 ∈ x_TT := x_TT_of (tq_2 (List.mem_of_getElem? (i := 130) rfl)) rfl
theorem wn_X8 : Cond.instantiable RX8 7 ∈ x_TT := x_TT_of (tq_2 (List.mem_of_getElem? (i := 131) rfl)) rfl
theorem wm_X11_63 : Cond.methodLink RX11 63 yX8_init ∈ x_TT := x_TT_of (tq_2 (List.mem_of_getElem? (i := 132) rfl)) rfl
theorem wl_X11_68 : Cond.classLink RX11 68 RX9 ∈ x_TT := x_TT_of (tq_2 (List.mem_of_getElem? (i := 162) rfl)) rfl
theorem wn_X9 : Cond.instantiable RX9 8 ∈ x_TT := x_TT_of (tq_2 (List.mem_of_getElem? (i := 163) rfl)) rfl
theorem wm_X11_70 : Cond.methodLink RX11 70 yX9_init ∈ x_TT := x_TT_of (tq_2 (List.mem_of_getElem? (i := 164) rfl)) rfl
theorem wc_X12_init : Cond.code yX12_init cX12_init 1 none ∈ x_TT := x_TT_of (tq_6 (List.mem_of_getElem? (i := 52) rfl)) rfl
theorem wv_X12_init : Cond.instanceMethod yX12_init ∈ x_TT := x_TT_of (tq_6 (List.mem_of_getElem? (i := 51) rfl)) rfl
theorem wm_X12_1 : Cond.methodLink RX12 1 Lib.objectInit ∈ x_TT := x_TT_of (tq_6 (List.mem_of_getElem? (i := 53) rfl)) rfl
theorem mi_X10_init : x_M mYX10_init 0 := ⟨wc_X10_init, wi_X10, by decide, nc_X10.1, nc_X10.2, pd__V⟩
theorem df_X10 : ∀ j, j < 4 → defaultValue (tyX10 j) = vp_V [.null, .int 0, .null, .int 0] j := by decide +kernel
theorem mi_X5_init : x_M mYX5_init 0 := ⟨wc_X5_init, wi_X5, by decide, nc_X5.1, nc_X5.2, pd__V⟩
theorem df_X5 : ∀ j, j < 20 → defaultValue (tyX5 j) = vp_V [.int 0, .null, .null, .null, .int 0, .null, .int 0, .null, .null, .null, .null, .null, .null, .null, .int 0, .null, .null, .int 0, .int 0, .int 0] j := by decide +kernel
theorem mi_X7_init : x_M mYX7_init 0 := ⟨wc_X7_init, wi_X7, by decide, nc_X7.1, nc_X7.2, pd__V⟩
theorem df_X7 : ∀ j, j < 9 → defaultValue (tyX7 j) = vp_V [.null, .int 0, .int 0, .int 0, .int 0, .int 0, .long 0, .int 0, .int 0] j := by decide +kernel
theorem mi_X1_init : x_M mYX1_init 2 := ⟨wc_X1_init, wi_X1, by decide, nc_X1.1, nc_X1.2, pd_LOathButtonsTokensLOathButtonsWear_V⟩
theorem df_X1 : ∀ j, j < 2 → defaultValue (tyX1 j) = vp_V [.null, .null] j := by decide +kernel
theorem mi_X4_init : x_M mYX4_init 0 := ⟨wc_X4_init, wi_X4, by decide, nc_X4.1, nc_X4.2, pd__V⟩
theorem df_X4 : ∀ j, j < 7 → defaultValue (tyX4 j) = vp_V [.null, .null, .null, .null, .null, .null, .int 0] j := by decide +kernel
theorem mi_X0_init : x_M mYX0_init 1 := ⟨wc_X0_init, wi_X0, by decide, nc_X0.1, nc_X0.2, pd_LOathButtonsRegiment_V⟩
theorem df_X0 : ∀ j, j < 2 → defaultValue (tyX0 j) = vp_V [.null, .null] j := by decide +kernel
theorem mi_X2_init : x_M mYX2_init 1 := ⟨wc_X2_init, wi_X2, by decide, nc_X2.1, nc_X2.2, pd_LOathButtonsCoats_V⟩
theorem df_X2 : ∀ j, j < 6 → defaultValue (tyX2 j) = vp_V [.null, .null, .null, .int 0, .int 0, .int 0] j := by decide +kernel
theorem mi_X3_init : x_M mYX3_init 2 := ⟨wc_X3_init, wi_X3, by decide, nc_X3.1, nc_X3.2, pd_LOathButtonsRegimentLOathButtonsCoats_V⟩
theorem df_X3 : ∀ j, j < 12 → defaultValue (tyX3 j) = vp_V [.null, .null, .null, .int 0, .int 0, .null, .null, .null, .null, .int 0, .int 0, .int 0] j := by decide +kernel
theorem mi_X6_init : x_M mYX6_init 2 := ⟨wc_X6_init, wi_X6, by decide, nc_X6.1, nc_X6.2, pd_LOathButtonsRegimentLOathButtonsCoats_V⟩
theorem df_X6 : ∀ j, j < 2 → defaultValue (tyX6 j) = vp_V [.null, .null] j := by decide +kernel
theorem mi_X8_init : x_M mYX8_init 1 := ⟨wc_X8_init, wi_X8, by decide, nc_X8.1, nc_X8.2, pd_LOathButtonsRegiment_V⟩
theorem df_X8 : ∀ j, j < 7 → defaultValue (tyX8 j) = vp_V [.null, .null, .null, .int 0, .null, .int 0, .int 0] j := by decide +kernel
theorem mi_X9_init : x_M mYX9_init 1 := ⟨wc_X9_init, wi_X9, by decide, nc_X9.1, nc_X9.2, pd_LOathButtonsRegiment_V⟩
theorem df_X9 : ∀ j, j < 8 → defaultValue (tyX9 j) = vp_V [.null, .null, .null, .null, .null, .null, .int 0, .int 0] j := by decide +kernel
theorem mi_X11_init : x_M mYX11_init 0 := ⟨wc_X11_init, wi_X11, by decide, nc_X11.1, nc_X11.2, pd__V⟩
theorem df_X11 : ∀ j, j < 14 → defaultValue (tyX11 j) = vp_V [.null, .int 0, .null, .null, .null, .null, .null, .null, .null, .null, .null, .int 0, .int 0, .int 0] j := by decide +kernel
theorem mi_X12_init : x_M mYX12_init 0 := ⟨wc_X12_init, wi_X12, by decide, nc_X12.1, nc_X12.2, pd__V⟩
theorem df_X12 : ∀ j, j < 97 → defaultValue (tyX12 j) = vp_V [.null, .int 0, .int 0, .int 0, .int 0, .int 0, .int 0, .int 0, .int 0, .long 0, .null, .null, .null, .null, .null, .null, .null, .int 0, .int 0, .int 0, .int 0, .int 0, .int 0, .int 0, .null, .null, .null, .null, .null, .null, .null, .null, .null, .null, .null, .null, .null, .null, .null, .null, .null, .null, .null, .null, .null, .null, .null, .null, .null, .int 0, .int 0, .int 0, .int 0, .int 0, .int 0, .int 0, .int 0, .int 0, .int 0, .int 0, .int 0, .int 0, .int 0, .int 0, .int 0, .int 0, .int 0, .null, .null, .int 0, .int 0, .null, .null, .int 0, .int 0, .null, .null, .null, .null, .int 0, .int 0, .int 0, .int 0, .int 0, .null, .int 0, .null, .null, .null, .null, .null, .null, .null, .int 0, .int 0, .null, .null] j := by decide +kernel
def nZ (U : State) : Prop := va_Nw (.methodLinkNest RX5 50 yX10_init "OathButtons") U ∧ va_Nw (.methodLinkNest RX11 22 yX4_init "OathButtons") U ∧ va_Nw (.methodLinkNest RX4 11 yX7_init "OathButtons") U
theorem nz_X5_50 {U : State} (h : nZ U) : va_Nw (.methodLinkNest RX5 50 yX10_init "OathButtons") U := h.1
theorem nz_X11_22 {U : State} (h : nZ U) : va_Nw (.methodLinkNest RX11 22 yX4_init "OathButtons") U := h.2.1
theorem nz_X4_11 {U : State} (h : nZ U) : va_Nw (.methodLinkNest RX4 11 yX7_init "OathButtons") U := h.2.2
theorem nzw : ∀ s U : State, nZ s → s.WarmedH U.vm → nZ U := fun _ _ h hW => ⟨va_Nw.warmM hW h.1, va_Nw.warmM hW h.2.1, va_Nw.warmM hW h.2.2⟩
theorem nzs : ∀ s U : State, nZ s → U.vm = s.vm → U.heap = s.heap → nZ U := fun _ _ h hv _ => ⟨va_Nw.same rfl hv.symm h.1, va_Nw.same rfl hv.symm h.2.1, va_Nw.same rfl hv.symm h.2.2⟩
def wR (j : Nat) : Int32 := if j < 36 then -100 else 0
def S0R : xSt := (fun _ _ => 0, fun _ _ => 0, fun _ => 0)
def SR : xSt := (fun c => match c with
  | 0 => (fun j => match j with
    | 17 => 8
    | _ => 0)
  | 12 => wR
  | _ => fun _ => 0, fun _ _ => 0, fun _ => 0)
theorem emptyR_loop {h : xH} {d : Nat} {K : xSt → Prop} : ∀ (k x : Nat) (S : xSt), x + k = 36 → M_Wr_empty_13 h d ((fun c => if c = 12 then (fun j => if x ≤ j ∧ j < 36 then -100 else S.1 12 j) else S.1 c), S.2) (fun S1 => K (x_putI (x_putI (x_putI S1 0 17 8) 0 18 0) 0 19 0)) → B_Rg_empty_0_22 h d (nI x) S K := by
  intro k
  induction k with
  | zero =>
    intro x S hx H
    have e1 : ((fun c => if c = 12 then (fun j => if x ≤ j ∧ j < 36 then -100 else S.1 12 j) else S.1 c), S.2) = S := by
      refine Prod.ext ?_ rfl
      funext c j
      show (if c = 12 then (fun j => if x ≤ j ∧ j < 36 then (-100 : Int32) else S.1 12 j) else S.1 c) j = S.1 c j
      by_cases hc : c = 12
      · subst hc
        rw [if_pos rfl]
        exact if_neg (by omega)
      · rw [if_neg hc]
    rw [e1] at H
    exact b_Rg_empty_0_22 (br_t (nI_le (a := 36) (by omega) (by omega)) H)
  | succ k ih =>
    intro x S hx H
    refine b_Rg_empty_0_22 (br_f (nI_ge (b := 36) (by omega) (by omega)) ⟨vp_in_nI (by omega) (by omega), ?_⟩)
    rw [← nI_succ]
    refine ih (x + 1) _ (by omega) ?_
    have e1 : ((fun c => if c = 12 then (fun j => if x + 1 ≤ j ∧ j < 36 then -100 else (x_putI S 12 (nI x).toNatClampNeg (-100)).1 12 j) else (x_putI S 12 (nI x).toNatClampNeg (-100)).1 c), (x_putI S 12 (nI x).toNatClampNeg (-100)).2) = ((fun c => if c = 12 then (fun j => if x ≤ j ∧ j < 36 then -100 else S.1 12 j) else S.1 c), S.2) := by
      refine Prod.ext ?_ rfl
      funext c j
      show (if c = 12 then (fun j => if x + 1 ≤ j ∧ j < 36 then (-100 : Int32) else (x_putI S 12 (nI x).toNatClampNeg (-100)).1 12 j) else (x_putI S 12 (nI x).toNatClampNeg (-100)).1 c) j = (if c = 12 then (fun j => if x ≤ j ∧ j < 36 then (-100 : Int32) else S.1 12 j) else S.1 c) j
      by_cases hc : c = 12
      · subst hc
        rw [if_pos rfl, if_pos rfl, gI_same, nCl (by omega)]
        show (if x + 1 ≤ j ∧ j < 36 then (-100 : Int32) else upd (S.1 12) x (-100) j) = if x ≤ j ∧ j < 36 then (-100 : Int32) else S.1 12 j
        by_cases hj : j = x
        · subst hj
          rw [if_neg (by omega), if_pos (by omega), up_s]
        · rw [up_n _ _ hj]
          by_cases h1 : x + 1 ≤ j ∧ j < 36
          · rw [if_pos h1, if_pos (by omega)]
          · rw [if_neg h1, if_neg (by omega)]
      · rw [if_neg hc, if_neg hc, gI_ne _ _ _ hc]
    rw [e1]
    exact H
theorem emptyR {h : xH} : E (gR h) 1 mYX5_empty [.ref (x_ad (gR h) 0)] S0R (kV (fun S' => S' = SR)) := by
  have e0 : M_Rg_empty_0 h 0 S0R (fun S' => S' = SR) := by
    refine e_Rg_empty_0 ?_
    show B_Rg_empty_0_22 h 0 (nI 0) _ _
    refine emptyR_loop 36 0 _ (by omega) (e_Wr_empty_13 ?_)
    refine Prod.ext ?_ rfl
    funext c j
    match c with
    | 0 =>
      match j with
      | 0 => rfl
      | 1 => rfl
      | 2 => rfl
      | 3 => rfl
      | 4 => rfl
      | 5 => rfl
      | 6 => rfl
      | 7 => rfl
      | 8 => rfl
      | 9 => rfl
      | 10 => rfl
      | 11 => rfl
      | 12 => rfl
      | 13 => rfl
      | 14 => rfl
      | 15 => rfl
      | 16 => rfl
      | 17 => rfl
      | 18 => rfl
      | 19 => rfl
      | j + 20 => first | rfl | (simp [x_putI, upd, S0R, SR]; done)
    | 12 =>
      show (if 0 ≤ j ∧ j < 36 then (-100 : Int32) else 0) = if j < 36 then -100 else 0
      by_cases hj : j < 36
      · rw [if_pos ⟨Nat.zero_le _, hj⟩, if_pos hj]
      · rw [if_neg (fun q => hj q.2), if_neg hj]
    | 13 =>
      match j with
      | 0 => rfl
      | 1 => rfl
      | 2 => rfl
      | 3 => rfl
      | j + 4 => first | rfl | (simp [x_putI, upd, S0R, SR]; done)
    | 1 => rfl
    | 2 => rfl
    | 3 => rfl
    | 4 => rfl
    | 5 => rfl
    | 6 => rfl
    | 7 => rfl
    | 8 => rfl
    | 9 => rfl
    | 10 => rfl
    | 11 => rfl
    | c + 14 => first | rfl | (simp [x_putI, upd, S0R, SR]; done)
  exact e0
def wf_X10 (g : nG) (b : Nat) (q : Nat → Nat) : va_W := [(b, .inr (10, [.ref (q 1), .int 0, .ref (q 2), .int 0])), (q 1, .inl (g.2.2 0, 300, .inl (fun _ => 0))), (q 2, .inl (g.2.2 0, 32, .inl (fun _ => 0)))]
def wf_X5 (g : nG) (b : Nat) (q : Nat → Nat) : va_W := [(b, .inr (5, [.int 0, .ref (q 1), .ref (q 2), .ref (q 3), .int 0, .ref (q 4), .int 0, .ref (q 5), .ref (q 6), .ref (q 7), .ref (q 8), .ref (q 9), .ref (q 10), .ref (q 11), .int 0, .ref (q 12), .ref (q 13), .int 8, .int 0, .int 0])), (q 1, .inl (g.2.2 0, 6, .inl (fun _ => 0))), (q 2, .inl (g.2.2 0, 6, .inl (fun _ => 0))), (q 3, .inl (g.2.2 0, 6, .inl (fun _ => 0))), (q 4, .inl (g.2.2 0, 6, .inl (fun _ => 0))), (q 5, .inl (g.2.2 0, 10, .inl (fun _ => 0))), (q 6, .inl (g.2.2 0, 10, .inl (fun _ => 0))), (q 7, .inl (g.2.2 0, 10, .inl (fun _ => 0))), (q 8, .inl (g.2.2 0, 10, .inl (fun _ => 0))), (q 9, .inl (g.2.2 0, 10, .inl (fun _ => 0))), (q 10, .inl (g.2.2 0, 10, .inl (fun _ => 0))), (q 11, .inl (g.2.2 0, 10, .inl (fun _ => 0))), (q 12, .inl (g.2.2 0, 36, .inl wR)), (q 13, .inr (10, [.ref (q 14), .int 0, .ref (q 15), .int 0])), (q 14, .inl (g.2.2 0, 300, .inl (fun _ => 0))), (q 15, .inl (g.2.2 0, 32, .inl (fun _ => 0)))]
def wf_X7 (g : nG) (b : Nat) (q : Nat → Nat) : va_W := [(b, .inr (7, [.ref (q 1), .int 0, .int 0, .int 0, .int 0, .int 0, .long 0, .int 0, .int 0])), (q 1, .inl (g.2.2 1, 0, .inl (fun _ => 0)))]
def wf_X1 (g : nG) (b : Nat) (r1 r2 : Nat) (q : Nat → Nat) : va_W := [(b, .inr (1, [.ref r1, .ref r2]))]
def wf_X4 (g : nG) (b : Nat) (q : Nat → Nat) : va_W := [(b, .inr (4, [.ref (q 1), .ref (q 3), .ref (q 19), .ref (q 20), .ref (q 21), .ref (q 22), .int 0])), (q 1, .inr (7, [.ref (q 2), .int 0, .int 0, .int 0, .int 0, .int 0, .long 0, .int 0, .int 0])), (q 2, .inl (g.2.2 1, 0, .inl (fun _ => 0))), (q 3, .inr (5, [.int 0, .ref (q 4), .ref (q 5), .ref (q 6), .int 0, .ref (q 7), .int 0, .ref (q 8), .ref (q 9), .ref (q 10), .ref (q 11), .ref (q 12), .ref (q 13), .ref (q 14), .int 0, .ref (q 15), .ref (q 16), .int 8, .int 0, .int 0])), (q 4, .inl (g.2.2 0, 6, .inl (fun _ => 0))), (q 5, .inl (g.2.2 0, 6, .inl (fun _ => 0))), (q 6, .inl (g.2.2 0, 6, .inl (fun _ => 0))), (q 7, .inl (g.2.2 0, 6, .inl (fun _ => 0))), (q 8, .inl (g.2.2 0, 10, .inl (fun _ => 0))), (q 9, .inl (g.2.2 0, 10, .inl (fun _ => 0))), (q 10, .inl (g.2.2 0, 10, .inl (fun _ => 0))), (q 11, .inl (g.2.2 0, 10, .inl (fun _ => 0))), (q 12, .inl (g.2.2 0, 10, .inl (fun _ => 0))), (q 13, .inl (g.2.2 0, 10, .inl (fun _ => 0))), (q 14, .inl (g.2.2 0, 10, .inl (fun _ => 0))), (q 15, .inl (g.2.2 0, 36, .inl wR)), (q 16, .inr (10, [.ref (q 17), .int 0, .ref (q 18), .int 0])), (q 17, .inl (g.2.2 0, 300, .inl (fun _ => 0))), (q 18, .inl (g.2.2 0, 32, .inl (fun _ => 0))), (q 19, .inr (1, [.ref (q 1), .ref (q 16)])), (q 20, .inl (g.2.2 3, 6, .inr (.inl (fun _ => 0)))), (q 21, .inl (g.2.2 3, 6, .inr (.inl (fun _ => 0)))), (q 22, .inl (g.2.2 3, 10, .inr (.inl (fun _ => 0))))]
def wf_X0 (g : nG) (b : Nat) (r1 : Nat) (q : Nat → Nat) : va_W := [(b, .inr (0, [.ref r1, .ref (q 1)])), (q 1, .inl (g.2.2 0, 23, .inl (fun _ => 0)))]
def wf_X2 (g : nG) (b : Nat) (r1 : Nat) (q : Nat → Nat) : va_W := [(b, .inr (2, [.ref r1, .ref (q 1), .ref (q 2), .int 0, .int 0, .int 0])), (q 1, .inl (g.2.2 0, 943, .inl (fun _ => 0))), (q 2, .inl (g.2.2 0, 69, .inl (fun _ => 0)))]
def wf_X3 (g : nG) (b : Nat) (r1 r2 : Nat) (q : Nat → Nat) : va_W := [(b, .inr (3, [.ref r1, .ref r2, .ref (q 1), .int 0, .int 0, .ref (q 2), .ref (q 3), .ref (q 4), .ref (q 5), .int 0, .int 0, .int 0])), (q 1, .inl (g.2.2 0, 10, .inl (fun _ => 0))), (q 2, .inl (g.2.2 0, 64, .inl (fun _ => 0))), (q 3, .inl (g.2.2 0, 64, .inl (fun _ => 0))), (q 4, .inl (g.2.2 1, 1024, .inl (fun _ => 0))), (q 5, .inl (g.2.2 0, 6, .inl (fun _ => 0)))]
def wf_X6 (g : nG) (b : Nat) (r1 r2 : Nat) (q : Nat → Nat) : va_W := [(b, .inr (6, [.ref r1, .ref r2]))]
def wf_X8 (g : nG) (b : Nat) (r1 : Nat) (q : Nat → Nat) : va_W := [(b, .inr (8, [.ref r1, .ref (q 1), .ref (q 2), .int 0, .ref (q 3), .int 0, .int 0])), (q 1, .inl (g.2.2 0, 6, .inl (fun _ => 0))), (q 2, .inl (g.2.2 0, 6, .inl (fun _ => 0))), (q 3, .inl (g.2.2 0, 6, .inl (fun _ => 0)))]
def wf_X9 (g : nG) (b : Nat) (r1 : Nat) (q : Nat → Nat) : va_W := [(b, .inr (9, [.ref r1, .ref (q 1), .ref (q 2), .ref (q 3), .ref (q 4), .ref (q 5), .int 0, .int 0])), (q 1, .inl (g.2.2 0, 30, .inl (fun _ => 0))), (q 2, .inl (g.2.2 0, 30, .inl (fun _ => 0))), (q 3, .inl (g.2.2 2, 30, .inl (fun _ => 0))), (q 4, .inl (g.2.2 0, 30, .inl (fun _ => 0))), (q 5, .inl (g.2.2 0, 30, .inl (fun _ => 0)))]
set_option maxRecDepth 100000 in
set_option maxHeartbeats 4000000 in
theorem n_X10 (g : nG) (b : Nat) : EN g nZ 1 2 332 mYX10_init [.ref b] b (.inr (10, [.null, .int 0, .null, .int 0])) (fun w => ∃ q : Nat → Nat, w = wf_X10 g b q) := by
  refine n_enter pn_X10 rfl (Nat.le_of_ble_eq_true rfl) (fun sz => ?_)
  refine n_aload_n (x_at tdX10_init 0 rfl) rfl rfl ?_
  refine n_obj (x_at tdX10_init 1 rfl) wm_X10_3 wv_obj wc_obj (Nat.le_of_ble_eq_true rfl) ?_
  refine n_aload_n (x_at tdX10_init 2 rfl) rfl rfl ?_
  refine n_sipush (x_at tdX10_init 3 rfl) (v := 300) (by decide) ?_
  refine n_newiH (t := 0) (n := 300) (x_at tdX10_init 4 rfl) rfl wa_int rfl (fun _ _ => rfl) rfl (Nat.le_of_ble_eq_true rfl) (by decide) (by decide) (Nat.le_of_ble_eq_true rfl) (Nat.le_of_ble_eq_true rfl) (fun q1 => ?_)
  refine n_putF (k := 0) (fs' := [.ref q1, .int 0, .null, .int 0]) xc_10 (x_at tdX10_init 5 rfl) wf_X10_9 (by decide) rfl rfl rfl rfl (Nat.le_of_ble_eq_true rfl) rfl ?_
  refine n_aload_n (x_at tdX10_init 6 rfl) rfl rfl ?_
  refine n_bipush (x_at tdX10_init 7 rfl) (v := 32) (by decide) ?_
  refine n_newiH (t := 0) (n := 32) (x_at tdX10_init 8 rfl) rfl wa_int rfl (fun _ _ => rfl) rfl (Nat.le_of_ble_eq_true rfl) (by decide) (by decide) (Nat.le_of_ble_eq_true rfl) (Nat.le_of_ble_eq_true rfl) (fun q2 => ?_)
  refine n_putF (k := 2) (fs' := [.ref q1, .int 0, .ref q2, .int 0]) xc_10 (x_at tdX10_init 9 rfl) wf_X10_15 (by decide) rfl rfl rfl rfl (Nat.le_of_ble_eq_true rfl) rfl ?_
  exact n_return rfl (x_at tdX10_init 10 rfl) ⟨fun i => [0, q1, q2].getD i 0, rfl⟩
set_option maxRecDepth 100000 in
set_option maxHeartbeats 4000000 in
theorem n_X5 (g : nG) (b : Nat) : EN g nZ 2 15 466 mYX5_init [.ref b] b (.inr (5, [.int 0, .null, .null, .null, .int 0, .null, .int 0, .null, .null, .null, .null, .null, .null, .null, .int 0, .null, .null, .int 0, .int 0, .int 0])) (fun w => ∃ q : Nat → Nat, w = wf_X5 g b q) := by
  refine n_enter pn_X5 rfl (Nat.le_of_ble_eq_true rfl) (fun sz => ?_)
  refine n_aload_n (x_at tdX5_init 0 rfl) rfl rfl ?_
  refine n_obj (x_at tdX5_init 1 rfl) wm_X5_3 wv_obj wc_obj (Nat.le_of_ble_eq_true rfl) ?_
  refine n_aload_n (x_at tdX5_init 2 rfl) rfl rfl ?_
  refine n_bipush (x_at tdX5_init 3 rfl) (v := 6) (by decide) ?_
  refine n_newiH (t := 0) (n := 6) (x_at tdX5_init 4 rfl) rfl wa_int rfl (fun _ _ => rfl) rfl (Nat.le_of_ble_eq_true rfl) (by decide) (by decide) (Nat.le_of_ble_eq_true rfl) (Nat.le_of_ble_eq_true rfl) (fun q1 => ?_)
  refine n_putF (k := 1) (fs' := [.int 0, .ref q1, .null, .null, .int 0, .null, .int 0, .null, .null, .null, .null, .null, .null, .null, .int 0, .null, .null, .int 0, .int 0, .int 0]) xc_5 (x_at tdX5_init 5 rfl) wf_X5_9 (by decide) rfl rfl rfl rfl (Nat.le_of_ble_eq_true rfl) rfl ?_
  refine n_aload_n (x_at tdX5_init 6 rfl) rfl rfl ?_
  refine n_bipush (x_at tdX5_init 7 rfl) (v := 6) (by decide) ?_
  refine n_newiH (t := 0) (n := 6) (x_at tdX5_init 8 rfl) rfl wa_int rfl (fun _ _ => rfl) rfl (Nat.le_of_ble_eq_true rfl) (by decide) (by decide) (Nat.le_of_ble_eq_true rfl) (Nat.le_of_ble_eq_true rfl) (fun q2 => ?_)
  refine n_putF (k := 2) (fs' := [.int 0, .ref q1, .ref q2, .null, .int 0, .null, .int 0, .null, .null, .null, .null, .null, .null, .null, .int 0, .null, .null, .int 0, .int 0, .int 0]) xc_5 (x_at tdX5_init 9 rfl) wf_X5_15 (by decide) rfl rfl rfl rfl (Nat.le_of_ble_eq_true rfl) rfl ?_
  refine n_aload_n (x_at tdX5_init 10 rfl) rfl rfl ?_
  refine n_bipush (x_at tdX5_init 11 rfl) (v := 6) (by decide) ?_
  refine n_newiH (t := 0) (n := 6) (x_at tdX5_init 12 rfl) rfl wa_int rfl (fun _ _ => rfl) rfl (Nat.le_of_ble_eq_true rfl) (by decide) (by decide) (Nat.le_of_ble_eq_true rfl) (Nat.le_of_ble_eq_true rfl) (fun q3 => ?_)
  refine n_putF (k := 3) (fs' := [.int 0, .ref q1, .ref q2, .ref q3, .int 0, .null, .int 0, .null, .null, .null, .null, .null, .null, .null, .int 0, .null, .null, .int 0, .int 0, .int 0]) xc_5 (x_at tdX5_init 13 rfl) wf_X5_18 (by decide) rfl rfl rfl rfl (Nat.le_of_ble_eq_true rfl) rfl ?_
  refine n_aload_n (x_at tdX5_init 14 rfl) rfl rfl ?_
  refine n_bipush (x_at tdX5_init 15 rfl) (v := 6) (by decide) ?_
  refine n_newiH (t := 0) (n := 6) (x_at tdX5_init 16 rfl) rfl wa_int rfl (fun _ _ => rfl) rfl (Nat.le_of_ble_eq_true rfl) (by decide) (by decide) (Nat.le_of_ble_eq_true rfl) (Nat.le_of_ble_eq_true rfl) (fun q4 => ?_)
  refine n_putF (k := 5) (fs' := [.int 0, .ref q1, .ref q2, .ref q3, .int 0, .ref q4, .int 0, .null, .null, .null, .null, .null, .null, .null, .int 0, .null, .null, .int 0, .int 0, .int 0]) xc_5 (x_at tdX5_init 17 rfl) wf_X5_21 (by decide) rfl rfl rfl rfl (Nat.le_of_ble_eq_true rfl) rfl ?_
  refine n_aload_n (x_at tdX5_init 18 rfl) rfl rfl ?_
  refine n_bipush (x_at tdX5_init 19 rfl) (v := 10) (by decide) ?_
  refine n_newiH (t := 0) (n := 10) (x_at tdX5_init 20 rfl) rfl wa_int rfl (fun _ _ => rfl) rfl (Nat.le_of_ble_eq_true rfl) (by decide) (by decide) (Nat.le_of_ble_eq_true rfl) (Nat.le_of_ble_eq_true rfl) (fun q5 => ?_)
  refine n_putF (k := 7) (fs' := [.int 0, .ref q1, .ref q2, .ref q3, .int 0, .ref q4, .int 0, .ref q5, .null, .null, .null, .null, .null, .null, .int 0, .null, .null, .int 0, .int 0, .int 0]) xc_5 (x_at tdX5_init 21 rfl) wf_X5_24 (by decide) rfl rfl rfl rfl (Nat.le_of_ble_eq_true rfl) rfl ?_
  refine n_aload_n (x_at tdX5_init 22 rfl) rfl rfl ?_
  refine n_bipush (x_at tdX5_init 23 rfl) (v := 10) (by decide) ?_
  refine n_newiH (t := 0) (n := 10) (x_at tdX5_init 24 rfl) rfl wa_int rfl (fun _ _ => rfl) rfl (Nat.le_of_ble_eq_true rfl) (by decide) (by decide) (Nat.le_of_ble_eq_true rfl) (Nat.le_of_ble_eq_true rfl) (fun q6 => ?_)
  refine n_putF (k := 8) (fs' := [.int 0, .ref q1, .ref q2, .ref q3, .int 0, .ref q4, .int 0, .ref q5, .ref q6, .null, .null, .null, .null, .null, .int 0, .null, .null, .int 0, .int 0, .int 0]) xc_5 (x_at tdX5_init 25 rfl) wf_X5_27 (by decide) rfl rfl rfl rfl (Nat.le_of_ble_eq_true rfl) rfl ?_
  refine n_aload_n (x_at tdX5_init 26 rfl) rfl rfl ?_
  refine n_bipush (x_at tdX5_init 27 rfl) (v := 10) (by decide) ?_
  refine n_newiH (t := 0) (n := 10) (x_at tdX5_init 28 rfl) rfl wa_int rfl (fun _ _ => rfl) rfl (Nat.le_of_ble_eq_true rfl) (by decide) (by decide) (Nat.le_of_ble_eq_true rfl) (Nat.le_of_ble_eq_true rfl) (fun q7 => ?_)
  refine n_putF (k := 9) (fs' := [.int 0, .ref q1, .ref q2, .ref q3, .int 0, .ref q4, .int 0, .ref q5, .ref q6, .ref q7, .null, .null, .null, .null, .int 0, .null, .null, .int 0, .int 0, .int 0]) xc_5 (x_at tdX5_init 29 rfl) wf_X5_30 (by decide) rfl rfl rfl rfl (Nat.le_of_ble_eq_true rfl) rfl ?_
  refine n_aload_n (x_at tdX5_init 30 rfl) rfl rfl ?_
  refine n_bipush (x_at tdX5_init 31 rfl) (v := 10) (by decide) ?_
  refine n_newiH (t := 0) (n := 10) (x_at tdX5_init 32 rfl) rfl wa_int rfl (fun _ _ => rfl) rfl (Nat.le_of_ble_eq_true rfl) (by decide) (by decide) (Nat.le_of_ble_eq_true rfl) (Nat.le_of_ble_eq_true rfl) (fun q8 => ?_)
  refine n_putF (k := 10) (fs' := [.int 0, .ref q1, .ref q2, .ref q3, .int 0, .ref q4, .int 0, .ref q5, .ref q6, .ref q7, .ref q8, .null, .null, .null, .int 0, .null, .null, .int 0, .int 0, .int 0]) xc_5 (x_at tdX5_init 33 rfl) wf_X5_33 (by decide) rfl rfl rfl rfl (Nat.le_of_ble_eq_true rfl) rfl ?_
  refine n_aload_n (x_at tdX5_init 34 rfl) rfl rfl ?_
  refine n_bipush (x_at tdX5_init 35 rfl) (v := 10) (by decide) ?_
  refine n_newiH (t := 0) (n := 10) (x_at tdX5_init 36 rfl) rfl wa_int rfl (fun _ _ => rfl) rfl (Nat.le_of_ble_eq_true rfl) (by decide) (by decide) (Nat.le_of_ble_eq_true rfl) (Nat.le_of_ble_eq_true rfl) (fun q9 => ?_)
  refine n_putF (k := 11) (fs' := [.int 0, .ref q1, .ref q2, .ref q3, .int 0, .ref q4, .int 0, .ref q5, .ref q6, .ref q7, .ref q8, .ref q9, .null, .null, .int 0, .null, .null, .int 0, .int 0, .int 0]) xc_5 (x_at tdX5_init 37 rfl) wf_X5_36 (by decide) rfl rfl rfl rfl (Nat.le_of_ble_eq_true rfl) rfl ?_
  refine n_aload_n (x_at tdX5_init 38 rfl) rfl rfl ?_
  refine n_bipush (x_at tdX5_init 39 rfl) (v := 10) (by decide) ?_
  refine n_newiH (t := 0) (n := 10) (x_at tdX5_init 40 rfl) rfl wa_int rfl (fun _ _ => rfl) rfl (Nat.le_of_ble_eq_true rfl) (by decide) (by decide) (Nat.le_of_ble_eq_true rfl) (Nat.le_of_ble_eq_true rfl) (fun q10 => ?_)
  refine n_putF (k := 12) (fs' := [.int 0, .ref q1, .ref q2, .ref q3, .int 0, .ref q4, .int 0, .ref q5, .ref q6, .ref q7, .ref q8, .ref q9, .ref q10, .null, .int 0, .null, .null, .int 0, .int 0, .int 0]) xc_5 (x_at tdX5_init 41 rfl) wf_X5_39 (by decide) rfl rfl rfl rfl (Nat.le_of_ble_eq_true rfl) rfl ?_
  refine n_aload_n (x_at tdX5_init 42 rfl) rfl rfl ?_
  refine n_bipush (x_at tdX5_init 43 rfl) (v := 10) (by decide) ?_
  refine n_newiH (t := 0) (n := 10) (x_at tdX5_init 44 rfl) rfl wa_int rfl (fun _ _ => rfl) rfl (Nat.le_of_ble_eq_true rfl) (by decide) (by decide) (Nat.le_of_ble_eq_true rfl) (Nat.le_of_ble_eq_true rfl) (fun q11 => ?_)
  refine n_putF (k := 13) (fs' := [.int 0, .ref q1, .ref q2, .ref q3, .int 0, .ref q4, .int 0, .ref q5, .ref q6, .ref q7, .ref q8, .ref q9, .ref q10, .ref q11, .int 0, .null, .null, .int 0, .int 0, .int 0]) xc_5 (x_at tdX5_init 45 rfl) wf_X5_42 (by decide) rfl rfl rfl rfl (Nat.le_of_ble_eq_true rfl) rfl ?_
  refine n_aload_n (x_at tdX5_init 46 rfl) rfl rfl ?_
  refine n_bipush (x_at tdX5_init 47 rfl) (v := 36) (by decide) ?_
  refine n_newiH (t := 0) (n := 36) (x_at tdX5_init 48 rfl) rfl wa_int rfl (fun _ _ => rfl) rfl (Nat.le_of_ble_eq_true rfl) (by decide) (by decide) (Nat.le_of_ble_eq_true rfl) (Nat.le_of_ble_eq_true rfl) (fun q12 => ?_)
  refine n_putF (k := 15) (fs' := [.int 0, .ref q1, .ref q2, .ref q3, .int 0, .ref q4, .int 0, .ref q5, .ref q6, .ref q7, .ref q8, .ref q9, .ref q10, .ref q11, .int 0, .ref q12, .null, .int 0, .int 0, .int 0]) xc_5 (x_at tdX5_init 49 rfl) wf_X5_45 (by decide) rfl rfl rfl rfl (Nat.le_of_ble_eq_true rfl) rfl ?_
  refine n_aload_n (x_at tdX5_init 50 rfl) rfl rfl ?_
  refine n_newH (fs := [.null, .int 0, .null, .int 0]) xc_10 (x_at tdX5_init 51 rfl) wl_X5_48 wn_X10 wi_X10 df_X10 (Nat.le_of_ble_eq_true rfl) (Nat.le_of_ble_eq_true rfl) (fun q13 => ?_)
  refine n_dup (x_at tdX5_init 52 rfl) rfl ?_
  refine n_initNH (as := []) (rs := [.ref q13, .ref b]) mi_X10_init wv_X10_init rfl rfl (x_at tdX5_init 53 rfl) (fun _ hz => nz_X5_50 hz) rfl (Nat.le_of_ble_eq_true rfl) rfl (Nat.le_of_ble_eq_true rfl) (Nat.le_of_ble_eq_true rfl) (Nat.le_of_ble_eq_true rfl) nzw nzs (n_X10 g q13) (fun w13 hw13 => ?_)
  obtain ⟨s13, rfl⟩ := hw13
  refine n_putF (k := 16) (fs' := [.int 0, .ref q1, .ref q2, .ref q3, .int 0, .ref q4, .int 0, .ref q5, .ref q6, .ref q7, .ref q8, .ref q9, .ref q10, .ref q11, .int 0, .ref q12, .ref q13, .int 0, .int 0, .int 0]) xc_5 (x_at tdX5_init 54 rfl) wf_X5_51 (by decide) rfl rfl rfl rfl (Nat.le_of_ble_eq_true rfl) rfl ?_
  refine n_aload_n (x_at tdX5_init 55 rfl) rfl rfl ?_
  refine n_ws (w1 := x_ws (gR (g.1, g.2.1, g.2.2, fun i => [b, q1, q2, q3, q4, q5, q6, q7, q8, q9, q10, q11, q12, q13, (s13 1), (s13 2)].getD i 0, fun _ => True)) S0R) rfl ?_
  refine n_callV (G := gR (g.1, g.2.1, g.2.2, fun i => [b, q1, q2, q3, q4, q5, q6, q7, q8, q9, q10, q11, q12, q13, (s13 1), (s13 2)].getD i 0, fun _ => True)) (S := S0R) (o := 0) (d' := 1) (as := []) (rest := []) (Kc := kV (fun S' => S' = SR)) mi_X5_empty vc_5 rfl (x_at tdX5_init 56 rfl) wm_X5_55 rfl (Nat.le_of_ble_eq_true rfl) rfl (Nat.le_of_ble_eq_true rfl) ⟨Nat.le_of_ble_eq_true rfl, Nat.le_of_ble_eq_true rfl⟩ (fun hi => ⟨hi, fun _ _ _ _ _ => trivial, fun _ _ _ _ _ => trivial⟩) (fun _ _ _ _ _ _ => trivial) emptyR (fun r S' hq => ?_)
  obtain ⟨rfl, rfl⟩ := hq
  exact n_return rfl (x_at tdX5_init 57 rfl) ⟨fun i => [0, q1, q2, q3, q4, q5, q6, q7, q8, q9, q10, q11, q12, q13, (s13 1), (s13 2)].getD i 0, rfl⟩
set_option maxRecDepth 100000 in
set_option maxHeartbeats 4000000 in
theorem n_X7 (g : nG) (b : Nat) : EN g nZ 1 1 0 mYX7_init [.ref b] b (.inr (7, [.null, .int 0, .int 0, .int 0, .int 0, .int 0, .long 0, .int 0, .int 0])) (fun w => ∃ q : Nat → Nat, w = wf_X7 g b q) := by
  refine n_enter pn_X7 rfl (Nat.le_of_ble_eq_true rfl) (fun sz => ?_)
  refine n_aload_n (x_at tdX7_init 0 rfl) rfl rfl ?_
  refine n_obj (x_at tdX7_init 1 rfl) wm_X7_3 wv_obj wc_obj (Nat.le_of_ble_eq_true rfl) ?_
  refine n_aload_n (x_at tdX7_init 2 rfl) rfl rfl ?_
  refine n_iconst (x_at tdX7_init 3 rfl) (v := 0) (by decide) ?_
  refine n_newiH (t := 1) (n := 0) (x_at tdX7_init 4 rfl) rfl wa_byte rfl (fun _ _ => rfl) rfl (Nat.le_of_ble_eq_true rfl) (by decide) (by decide) (Nat.le_of_ble_eq_true rfl) (Nat.le_of_ble_eq_true rfl) (fun q1 => ?_)
  refine n_put (k := 0) (fs' := [.ref q1, .int 0, .int 0, .int 0, .int 0, .int 0, .long 0, .int 0, .int 0]) xc_7 (x_at tdX7_init 5 rfl) wf_X7_9 (by decide) rfl rfl rfl (Nat.le_of_ble_eq_true rfl) rfl ?_
  exact n_return rfl (x_at tdX7_init 6 rfl) ⟨fun i => [0, q1].getD i 0, rfl⟩
set_option maxRecDepth 100000 in
set_option maxHeartbeats 4000000 in
theorem n_X1 (g : nG) (b : Nat) (r1 r2 : Nat) : EN g nZ 1 0 0 mYX1_init [.ref b, .ref r1, .ref r2] b (.inr (1, [.null, .null])) (fun w => ∃ q : Nat → Nat, w = wf_X1 g b r1 r2 q) := by
  refine n_enter pn_X1 rfl (Nat.le_of_ble_eq_true rfl) (fun sz => ?_)
  refine n_aload_n (x_at tdX1_init 0 rfl) rfl rfl ?_
  refine n_obj (x_at tdX1_init 1 rfl) wm_X1_3 wv_obj wc_obj (Nat.le_of_ble_eq_true rfl) ?_
  refine n_aload_n (x_at tdX1_init 2 rfl) rfl rfl ?_
  refine n_aload_n (x_at tdX1_init 3 rfl) rfl rfl ?_
  refine n_putF (k := 0) (fs' := [.ref r1, .null]) xc_1 (x_at tdX1_init 4 rfl) wf_X1_9 (by decide) rfl rfl rfl rfl (Nat.le_of_ble_eq_true rfl) rfl ?_
  refine n_aload_n (x_at tdX1_init 5 rfl) rfl rfl ?_
  refine n_aload_n (x_at tdX1_init 6 rfl) rfl rfl ?_
  refine n_putF (k := 1) (fs' := [.ref r1, .ref r2]) xc_1 (x_at tdX1_init 7 rfl) wf_X1_15 (by decide) rfl rfl rfl rfl (Nat.le_of_ble_eq_true rfl) rfl ?_
  exact n_return rfl (x_at tdX1_init 8 rfl) ⟨fun _ => 0, rfl⟩
set_option maxRecDepth 100000 in
set_option maxHeartbeats 4000000 in
theorem n_X4 (g : nG) (b : Nat) : EN g nZ 3 22 519 mYX4_init [.ref b] b (.inr (4, [.null, .null, .null, .null, .null, .null, .int 0])) (fun w => ∃ q : Nat → Nat, w = wf_X4 g b q) := by
  refine n_enter pn_X4 rfl (Nat.le_of_ble_eq_true rfl) (fun sz => ?_)
  refine n_aload_n (x_at tdX4_init 0 rfl) rfl rfl ?_
  refine n_obj (x_at tdX4_init 1 rfl) wm_X4_3 wv_obj wc_obj (Nat.le_of_ble_eq_true rfl) ?_
  refine n_aload_n (x_at tdX4_init 2 rfl) rfl rfl ?_
  refine n_newH (fs := [.null, .int 0, .int 0, .int 0, .int 0, .int 0, .long 0, .int 0, .int 0]) xc_7 (x_at tdX4_init 3 rfl) wl_X4_9 wn_X7 wi_X7 df_X7 (Nat.le_of_ble_eq_true rfl) (Nat.le_of_ble_eq_true rfl) (fun q1 => ?_)
  refine n_dup (x_at tdX4_init 4 rfl) rfl ?_
  refine n_initNH (as := []) (rs := [.ref q1, .ref b]) mi_X7_init wv_X7_init rfl rfl (x_at tdX4_init 5 rfl) (fun _ hz => nz_X4_11 hz) rfl (Nat.le_of_ble_eq_true rfl) rfl (Nat.le_of_ble_eq_true rfl) (Nat.le_of_ble_eq_true rfl) (Nat.le_of_ble_eq_true rfl) nzw nzs (n_X7 g q1) (fun w1 hw1 => ?_)
  obtain ⟨s1, rfl⟩ := hw1
  refine n_putF (k := 0) (fs' := [.ref q1, .null, .null, .null, .null, .null, .int 0]) xc_4 (x_at tdX4_init 6 rfl) wf_X4_12 (by decide) rfl rfl rfl rfl (Nat.le_of_ble_eq_true rfl) rfl ?_
  refine n_aload_n (x_at tdX4_init 7 rfl) rfl rfl ?_
  refine n_newH (fs := [.int 0, .null, .null, .null, .int 0, .null, .int 0, .null, .null, .null, .null, .null, .null, .null, .int 0, .null, .null, .int 0, .int 0, .int 0]) xc_5 (x_at tdX4_init 8 rfl) wl_X4_18 wn_X5 wi_X5 df_X5 (Nat.le_of_ble_eq_true rfl) (Nat.le_of_ble_eq_true rfl) (fun q2 => ?_)
  refine n_dup (x_at tdX4_init 9 rfl) rfl ?_
  refine n_initH (as := []) (rs := [.ref q2, .ref b]) mi_X5_init wv_X5_init rfl rfl (x_at tdX4_init 10 rfl) wm_X4_20 rfl (Nat.le_of_ble_eq_true rfl) rfl (Nat.le_of_ble_eq_true rfl) (Nat.le_of_ble_eq_true rfl) (Nat.le_of_ble_eq_true rfl) nzw nzs (n_X5 g q2) (fun w2 hw2 => ?_)
  obtain ⟨s2, rfl⟩ := hw2
  refine n_putF (k := 1) (fs' := [.ref q1, .ref q2, .null, .null, .null, .null, .int 0]) xc_4 (x_at tdX4_init 11 rfl) wf_X4_21 (by decide) rfl rfl rfl rfl (Nat.le_of_ble_eq_true rfl) rfl ?_
  refine n_aload_n (x_at tdX4_init 12 rfl) rfl rfl ?_
  refine n_newH (fs := [.null, .null]) xc_1 (x_at tdX4_init 13 rfl) wl_X4_25 wn_X1 wi_X1 df_X1 (Nat.le_of_ble_eq_true rfl) (Nat.le_of_ble_eq_true rfl) (fun q3 => ?_)
  refine n_dup (x_at tdX4_init 14 rfl) rfl ?_
  refine n_aload_n (x_at tdX4_init 15 rfl) rfl rfl ?_
  refine n_get (i := 0) (k := 0) xc_4 (x_at tdX4_init 16 rfl) wf_X4_12 (by decide) rfl rfl ?_
  refine n_aload_n (x_at tdX4_init 17 rfl) rfl rfl ?_
  refine n_get (i := 0) (k := 1) xc_4 (x_at tdX4_init 18 rfl) wf_X4_21 (by decide) rfl rfl ?_
  refine n_get (i := 3) (k := 16) xc_5 (x_at tdX4_init 19 rfl) wf_X4_27 (by decide) rfl rfl ?_
  refine n_initH (as := [.ref q1, .ref (s2 13)]) (rs := [.ref q3, .ref b]) mi_X1_init wv_X1_init rfl rfl (x_at tdX4_init 20 rfl) wm_X4_31 rfl (Nat.le_of_ble_eq_true rfl) rfl (Nat.le_of_ble_eq_true rfl) (Nat.le_of_ble_eq_true rfl) (Nat.le_of_ble_eq_true rfl) nzw nzs (n_X1 g q3 q1 (s2 13)) (fun w3 hw3 => ?_)
  obtain ⟨s3, rfl⟩ := hw3
  refine n_putF (k := 2) (fs' := [.ref q1, .ref q2, .ref q3, .null, .null, .null, .int 0]) xc_4 (x_at tdX4_init 21 rfl) wf_X4_34 (by decide) rfl rfl rfl rfl (Nat.le_of_ble_eq_true rfl) rfl ?_
  refine n_aload_n (x_at tdX4_init 22 rfl) rfl rfl ?_
  refine n_bipush (x_at tdX4_init 23 rfl) (v := 6) (by decide) ?_
  refine n_newlH (n := 6) (x_at tdX4_init 24 rfl) wa_long (Nat.le_of_ble_eq_true rfl) (by decide) (by decide) (Nat.le_of_ble_eq_true rfl) (Nat.le_of_ble_eq_true rfl) (fun q4 => ?_)
  refine n_putF (k := 3) (fs' := [.ref q1, .ref q2, .ref q3, .ref q4, .null, .null, .int 0]) xc_4 (x_at tdX4_init 25 rfl) wf_X4_38 (by decide) rfl rfl rfl rfl (Nat.le_of_ble_eq_true rfl) rfl ?_
  refine n_aload_n (x_at tdX4_init 26 rfl) rfl rfl ?_
  refine n_bipush (x_at tdX4_init 27 rfl) (v := 6) (by decide) ?_
  refine n_newlH (n := 6) (x_at tdX4_init 28 rfl) wa_long (Nat.le_of_ble_eq_true rfl) (by decide) (by decide) (Nat.le_of_ble_eq_true rfl) (Nat.le_of_ble_eq_true rfl) (fun q5 => ?_)
  refine n_putF (k := 4) (fs' := [.ref q1, .ref q2, .ref q3, .ref q4, .ref q5, .null, .int 0]) xc_4 (x_at tdX4_init 29 rfl) wf_X4_42 (by decide) rfl rfl rfl rfl (Nat.le_of_ble_eq_true rfl) rfl ?_
  refine n_aload_n (x_at tdX4_init 30 rfl) rfl rfl ?_
  refine n_bipush (x_at tdX4_init 31 rfl) (v := 10) (by decide) ?_
  refine n_newlH (n := 10) (x_at tdX4_init 32 rfl) wa_long (Nat.le_of_ble_eq_true rfl) (by decide) (by decide) (Nat.le_of_ble_eq_true rfl) (Nat.le_of_ble_eq_true rfl) (fun q6 => ?_)
  refine n_putF (k := 5) (fs' := [.ref q1, .ref q2, .ref q3, .ref q4, .ref q5, .ref q6, .int 0]) xc_4 (x_at tdX4_init 33 rfl) wf_X4_45 (by decide) rfl rfl rfl rfl (Nat.le_of_ble_eq_true rfl) rfl ?_
  exact n_return rfl (x_at tdX4_init 34 rfl) ⟨fun i => [0, q1, (s1 1), q2, (s2 1), (s2 2), (s2 3), (s2 4), (s2 5), (s2 6), (s2 7), (s2 8), (s2 9), (s2 10), (s2 11), (s2 12), (s2 13), (s2 14), (s2 15), q3, q4, q5, q6].getD i 0, rfl⟩
set_option maxRecDepth 100000 in
set_option maxHeartbeats 4000000 in
theorem n_X0 (g : nG) (b : Nat) (r1 : Nat) : EN g nZ 1 1 23 mYX0_init [.ref b, .ref r1] b (.inr (0, [.null, .null])) (fun w => ∃ q : Nat → Nat, w = wf_X0 g b r1 q) := by
  refine n_enter pn_X0 rfl (Nat.le_of_ble_eq_true rfl) (fun sz => ?_)
  refine n_aload_n (x_at tdX0_init 0 rfl) rfl rfl ?_
  refine n_obj (x_at tdX0_init 1 rfl) wm_X0_5 wv_obj wc_obj (Nat.le_of_ble_eq_true rfl) ?_
  refine n_aload_n (x_at tdX0_init 2 rfl) rfl rfl ?_
  refine n_bipush (x_at tdX0_init 3 rfl) (v := 23) (by decide) ?_
  refine n_newiH (t := 0) (n := 23) (x_at tdX0_init 4 rfl) rfl wa_int rfl (fun _ _ => rfl) rfl (Nat.le_of_ble_eq_true rfl) (by decide) (by decide) (Nat.le_of_ble_eq_true rfl) (Nat.le_of_ble_eq_true rfl) (fun q1 => ?_)
  refine n_putF (k := 1) (fs' := [.null, .ref q1]) xc_0 (x_at tdX0_init 5 rfl) wf_X0_11 (by decide) rfl rfl rfl rfl (Nat.le_of_ble_eq_true rfl) rfl ?_
  refine n_aload_n (x_at tdX0_init 6 rfl) rfl rfl ?_
  refine n_aload_n (x_at tdX0_init 7 rfl) rfl rfl ?_
  refine n_putF (k := 0) (fs' := [.ref r1, .ref q1]) xc_0 (x_at tdX0_init 8 rfl) wf_X0_15 (by decide) rfl rfl rfl rfl (Nat.le_of_ble_eq_true rfl) rfl ?_
  exact n_return rfl (x_at tdX0_init 9 rfl) ⟨fun i => [0, q1].getD i 0, rfl⟩
set_option maxRecDepth 100000 in
set_option maxHeartbeats 4000000 in
theorem n_X2 (g : nG) (b : Nat) (r1 : Nat) : EN g nZ 1 2 1012 mYX2_init [.ref b, .ref r1] b (.inr (2, [.null, .null, .null, .int 0, .int 0, .int 0])) (fun w => ∃ q : Nat → Nat, w = wf_X2 g b r1 q) := by
  refine n_enter pn_X2 rfl (Nat.le_of_ble_eq_true rfl) (fun sz => ?_)
  refine n_aload_n (x_at tdX2_init 0 rfl) rfl rfl ?_
  refine n_obj (x_at tdX2_init 1 rfl) wm_X2_3 wv_obj wc_obj (Nat.le_of_ble_eq_true rfl) ?_
  refine n_aload_n (x_at tdX2_init 2 rfl) rfl rfl ?_
  refine n_sipush (x_at tdX2_init 3 rfl) (v := 943) (by decide) ?_
  refine n_newiH (t := 0) (n := 943) (x_at tdX2_init 4 rfl) rfl wa_int rfl (fun _ _ => rfl) rfl (Nat.le_of_ble_eq_true rfl) (by decide) (by decide) (Nat.le_of_ble_eq_true rfl) (Nat.le_of_ble_eq_true rfl) (fun q1 => ?_)
  refine n_putF (k := 1) (fs' := [.null, .ref q1, .null, .int 0, .int 0, .int 0]) xc_2 (x_at tdX2_init 5 rfl) wf_X2_11 (by decide) rfl rfl rfl rfl (Nat.le_of_ble_eq_true rfl) rfl ?_
  refine n_aload_n (x_at tdX2_init 6 rfl) rfl rfl ?_
  refine n_bipush (x_at tdX2_init 7 rfl) (v := 69) (by decide) ?_
  refine n_newiH (t := 0) (n := 69) (x_at tdX2_init 8 rfl) rfl wa_int rfl (fun _ _ => rfl) rfl (Nat.le_of_ble_eq_true rfl) (by decide) (by decide) (Nat.le_of_ble_eq_true rfl) (Nat.le_of_ble_eq_true rfl) (fun q2 => ?_)
  refine n_putF (k := 2) (fs' := [.null, .ref q1, .ref q2, .int 0, .int 0, .int 0]) xc_2 (x_at tdX2_init 9 rfl) wf_X2_17 (by decide) rfl rfl rfl rfl (Nat.le_of_ble_eq_true rfl) rfl ?_
  refine n_aload_n (x_at tdX2_init 10 rfl) rfl rfl ?_
  refine n_aload_n (x_at tdX2_init 11 rfl) rfl rfl ?_
  refine n_putF (k := 0) (fs' := [.ref r1, .ref q1, .ref q2, .int 0, .int 0, .int 0]) xc_2 (x_at tdX2_init 12 rfl) wf_X2_20 (by decide) rfl rfl rfl rfl (Nat.le_of_ble_eq_true rfl) rfl ?_
  exact n_return rfl (x_at tdX2_init 13 rfl) ⟨fun i => [0, q1, q2].getD i 0, rfl⟩
set_option maxRecDepth 100000 in
set_option maxHeartbeats 4000000 in
theorem n_X3 (g : nG) (b : Nat) (r1 r2 : Nat) : EN g nZ 1 5 1168 mYX3_init [.ref b, .ref r1, .ref r2] b (.inr (3, [.null, .null, .null, .int 0, .int 0, .null, .null, .null, .null, .int 0, .int 0, .int 0])) (fun w => ∃ q : Nat → Nat, w = wf_X3 g b r1 r2 q) := by
  refine n_enter pn_X3 rfl (Nat.le_of_ble_eq_true rfl) (fun sz => ?_)
  refine n_aload_n (x_at tdX3_init 0 rfl) rfl rfl ?_
  refine n_obj (x_at tdX3_init 1 rfl) wm_X3_3 wv_obj wc_obj (Nat.le_of_ble_eq_true rfl) ?_
  refine n_aload_n (x_at tdX3_init 2 rfl) rfl rfl ?_
  refine n_bipush (x_at tdX3_init 3 rfl) (v := 10) (by decide) ?_
  refine n_newiH (t := 0) (n := 10) (x_at tdX3_init 4 rfl) rfl wa_int rfl (fun _ _ => rfl) rfl (Nat.le_of_ble_eq_true rfl) (by decide) (by decide) (Nat.le_of_ble_eq_true rfl) (Nat.le_of_ble_eq_true rfl) (fun q1 => ?_)
  refine n_putF (k := 2) (fs' := [.null, .null, .ref q1, .int 0, .int 0, .null, .null, .null, .null, .int 0, .int 0, .int 0]) xc_3 (x_at tdX3_init 5 rfl) wf_X3_9 (by decide) rfl rfl rfl rfl (Nat.le_of_ble_eq_true rfl) rfl ?_
  refine n_aload_n (x_at tdX3_init 6 rfl) rfl rfl ?_
  refine n_bipush (x_at tdX3_init 7 rfl) (v := 64) (by decide) ?_
  refine n_newiH (t := 0) (n := 64) (x_at tdX3_init 8 rfl) rfl wa_int rfl (fun _ _ => rfl) rfl (Nat.le_of_ble_eq_true rfl) (by decide) (by decide) (Nat.le_of_ble_eq_true rfl) (Nat.le_of_ble_eq_true rfl) (fun q2 => ?_)
  refine n_putF (k := 5) (fs' := [.null, .null, .ref q1, .int 0, .int 0, .ref q2, .null, .null, .null, .int 0, .int 0, .int 0]) xc_3 (x_at tdX3_init 9 rfl) wf_X3_15 (by decide) rfl rfl rfl rfl (Nat.le_of_ble_eq_true rfl) rfl ?_
  refine n_aload_n (x_at tdX3_init 10 rfl) rfl rfl ?_
  refine n_bipush (x_at tdX3_init 11 rfl) (v := 64) (by decide) ?_
  refine n_newiH (t := 0) (n := 64) (x_at tdX3_init 12 rfl) rfl wa_int rfl (fun _ _ => rfl) rfl (Nat.le_of_ble_eq_true rfl) (by decide) (by decide) (Nat.le_of_ble_eq_true rfl) (Nat.le_of_ble_eq_true rfl) (fun q3 => ?_)
  refine n_putF (k := 6) (fs' := [.null, .null, .ref q1, .int 0, .int 0, .ref q2, .ref q3, .null, .null, .int 0, .int 0, .int 0]) xc_3 (x_at tdX3_init 13 rfl) wf_X3_18 (by decide) rfl rfl rfl rfl (Nat.le_of_ble_eq_true rfl) rfl ?_
  refine n_aload_n (x_at tdX3_init 14 rfl) rfl rfl ?_
  refine n_sipush (x_at tdX3_init 15 rfl) (v := 1024) (by decide) ?_
  refine n_newiH (t := 1) (n := 1024) (x_at tdX3_init 16 rfl) rfl wa_byte rfl (fun _ _ => rfl) rfl (Nat.le_of_ble_eq_true rfl) (by decide) (by decide) (Nat.le_of_ble_eq_true rfl) (Nat.le_of_ble_eq_true rfl) (fun q4 => ?_)
  refine n_putF (k := 7) (fs' := [.null, .null, .ref q1, .int 0, .int 0, .ref q2, .ref q3, .ref q4, .null, .int 0, .int 0, .int 0]) xc_3 (x_at tdX3_init 17 rfl) wf_X3_21 (by decide) rfl rfl rfl rfl (Nat.le_of_ble_eq_true rfl) rfl ?_
  refine n_aload_n (x_at tdX3_init 18 rfl) rfl rfl ?_
  refine n_bipush (x_at tdX3_init 19 rfl) (v := 6) (by decide) ?_
  refine n_newiH (t := 0) (n := 6) (x_at tdX3_init 20 rfl) rfl wa_int rfl (fun _ _ => rfl) rfl (Nat.le_of_ble_eq_true rfl) (by decide) (by decide) (Nat.le_of_ble_eq_true rfl) (Nat.le_of_ble_eq_true rfl) (fun q5 => ?_)
  refine n_putF (k := 8) (fs' := [.null, .null, .ref q1, .int 0, .int 0, .ref q2, .ref q3, .ref q4, .ref q5, .int 0, .int 0, .int 0]) xc_3 (x_at tdX3_init 21 rfl) wf_X3_25 (by decide) rfl rfl rfl rfl (Nat.le_of_ble_eq_true rfl) rfl ?_
  refine n_aload_n (x_at tdX3_init 22 rfl) rfl rfl ?_
  refine n_aload_n (x_at tdX3_init 23 rfl) rfl rfl ?_
  refine n_putF (k := 0) (fs' := [.ref r1, .null, .ref q1, .int 0, .int 0, .ref q2, .ref q3, .ref q4, .ref q5, .int 0, .int 0, .int 0]) xc_3 (x_at tdX3_init 24 rfl) wf_X3_28 (by decide) rfl rfl rfl rfl (Nat.le_of_ble_eq_true rfl) rfl ?_
  refine n_aload_n (x_at tdX3_init 25 rfl) rfl rfl ?_
  refine n_aload_n (x_at tdX3_init 26 rfl) rfl rfl ?_
  refine n_putF (k := 1) (fs' := [.ref r1, .ref r2, .ref q1, .int 0, .int 0, .ref q2, .ref q3, .ref q4, .ref q5, .int 0, .int 0, .int 0]) xc_3 (x_at tdX3_init 27 rfl) wf_X3_32 (by decide) rfl rfl rfl rfl (Nat.le_of_ble_eq_true rfl) rfl ?_
  exact n_return rfl (x_at tdX3_init 28 rfl) ⟨fun i => [0, q1, q2, q3, q4, q5].getD i 0, rfl⟩
set_option maxRecDepth 100000 in
set_option maxHeartbeats 4000000 in
theorem n_X6 (g : nG) (b : Nat) (r1 r2 : Nat) : EN g nZ 1 0 0 mYX6_init [.ref b, .ref r1, .ref r2] b (.inr (6, [.null, .null])) (fun w => ∃ q : Nat → Nat, w = wf_X6 g b r1 r2 q) := by
  refine n_enter pn_X6 rfl (Nat.le_of_ble_eq_true rfl) (fun sz => ?_)
  refine n_aload_n (x_at tdX6_init 0 rfl) rfl rfl ?_
  refine n_obj (x_at tdX6_init 1 rfl) wm_X6_3 wv_obj wc_obj (Nat.le_of_ble_eq_true rfl) ?_
  refine n_aload_n (x_at tdX6_init 2 rfl) rfl rfl ?_
  refine n_aload_n (x_at tdX6_init 3 rfl) rfl rfl ?_
  refine n_putF (k := 0) (fs' := [.ref r1, .null]) xc_6 (x_at tdX6_init 4 rfl) wf_X6_9 (by decide) rfl rfl rfl rfl (Nat.le_of_ble_eq_true rfl) rfl ?_
  refine n_aload_n (x_at tdX6_init 5 rfl) rfl rfl ?_
  refine n_aload_n (x_at tdX6_init 6 rfl) rfl rfl ?_
  refine n_putF (k := 1) (fs' := [.ref r1, .ref r2]) xc_6 (x_at tdX6_init 7 rfl) wf_X6_15 (by decide) rfl rfl rfl rfl (Nat.le_of_ble_eq_true rfl) rfl ?_
  exact n_return rfl (x_at tdX6_init 8 rfl) ⟨fun _ => 0, rfl⟩
set_option maxRecDepth 100000 in
set_option maxHeartbeats 4000000 in
theorem n_X8 (g : nG) (b : Nat) (r1 : Nat) : EN g nZ 1 3 18 mYX8_init [.ref b, .ref r1] b (.inr (8, [.null, .null, .null, .int 0, .null, .int 0, .int 0])) (fun w => ∃ q : Nat → Nat, w = wf_X8 g b r1 q) := by
  refine n_enter pn_X8 rfl (Nat.le_of_ble_eq_true rfl) (fun sz => ?_)
  refine n_aload_n (x_at tdX8_init 0 rfl) rfl rfl ?_
  refine n_obj (x_at tdX8_init 1 rfl) wm_X8_3 wv_obj wc_obj (Nat.le_of_ble_eq_true rfl) ?_
  refine n_aload_n (x_at tdX8_init 2 rfl) rfl rfl ?_
  refine n_bipush (x_at tdX8_init 3 rfl) (v := 6) (by decide) ?_
  refine n_newiH (t := 0) (n := 6) (x_at tdX8_init 4 rfl) rfl wa_int rfl (fun _ _ => rfl) rfl (Nat.le_of_ble_eq_true rfl) (by decide) (by decide) (Nat.le_of_ble_eq_true rfl) (Nat.le_of_ble_eq_true rfl) (fun q1 => ?_)
  refine n_putF (k := 1) (fs' := [.null, .ref q1, .null, .int 0, .null, .int 0, .int 0]) xc_8 (x_at tdX8_init 5 rfl) wf_X8_9 (by decide) rfl rfl rfl rfl (Nat.le_of_ble_eq_true rfl) rfl ?_
  refine n_aload_n (x_at tdX8_init 6 rfl) rfl rfl ?_
  refine n_bipush (x_at tdX8_init 7 rfl) (v := 6) (by decide) ?_
  refine n_newiH (t := 0) (n := 6) (x_at tdX8_init 8 rfl) rfl wa_int rfl (fun _ _ => rfl) rfl (Nat.le_of_ble_eq_true rfl) (by decide) (by decide) (Nat.le_of_ble_eq_true rfl) (Nat.le_of_ble_eq_true rfl) (fun q2 => ?_)
  refine n_putF (k := 2) (fs' := [.null, .ref q1, .ref q2, .int 0, .null, .int 0, .int 0]) xc_8 (x_at tdX8_init 9 rfl) wf_X8_15 (by decide) rfl rfl rfl rfl (Nat.le_of_ble_eq_true rfl) rfl ?_
  refine n_aload_n (x_at tdX8_init 10 rfl) rfl rfl ?_
  refine n_bipush (x_at tdX8_init 11 rfl) (v := 6) (by decide) ?_
  refine n_newiH (t := 0) (n := 6) (x_at tdX8_init 12 rfl) rfl wa_int rfl (fun _ _ => rfl) rfl (Nat.le_of_ble_eq_true rfl) (by decide) (by decide) (Nat.le_of_ble_eq_true rfl) (Nat.le_of_ble_eq_true rfl) (fun q3 => ?_)
  refine n_putF (k := 4) (fs' := [.null, .ref q1, .ref q2, .int 0, .ref q3, .int 0, .int 0]) xc_8 (x_at tdX8_init 13 rfl) wf_X8_18 (by decide) rfl rfl rfl rfl (Nat.le_of_ble_eq_true rfl) rfl ?_
  refine n_aload_n (x_at tdX8_init 14 rfl) rfl rfl ?_
  refine n_aload_n (x_at tdX8_init 15 rfl) rfl rfl ?_
  refine n_putF (k := 0) (fs' := [.ref r1, .ref q1, .ref q2, .int 0, .ref q3, .int 0, .int 0]) xc_8 (x_at tdX8_init 16 rfl) wf_X8_21 (by decide) rfl rfl rfl rfl (Nat.le_of_ble_eq_true rfl) rfl ?_
  exact n_return rfl (x_at tdX8_init 17 rfl) ⟨fun i => [0, q1, q2, q3].getD i 0, rfl⟩
set_option maxRecDepth 100000 in
set_option maxHeartbeats 4000000 in
theorem n_X9 (g : nG) (b : Nat) (r1 : Nat) : EN g nZ 1 5 150 mYX9_init [.ref b, .ref r1] b (.inr (9, [.null, .null, .null, .null, .null, .null, .int 0, .int 0])) (fun w => ∃ q : Nat → Nat, w = wf_X9 g b r1 q) := by
  refine n_enter pn_X9 rfl (Nat.le_of_ble_eq_true rfl) (fun sz => ?_)
  refine n_aload_n (x_at tdX9_init 0 rfl) rfl rfl ?_
  refine n_obj (x_at tdX9_init 1 rfl) wm_X9_3 wv_obj wc_obj (Nat.le_of_ble_eq_true rfl) ?_
  refine n_aload_n (x_at tdX9_init 2 rfl) rfl rfl ?_
  refine n_bipush (x_at tdX9_init 3 rfl) (v := 30) (by decide) ?_
  refine n_newiH (t := 0) (n := 30) (x_at tdX9_init 4 rfl) rfl wa_int rfl (fun _ _ => rfl) rfl (Nat.le_of_ble_eq_true rfl) (by decide) (by decide) (Nat.le_of_ble_eq_true rfl) (Nat.le_of_ble_eq_true rfl) (fun q1 => ?_)
  refine n_putF (k := 1) (fs' := [.null, .ref q1, .null, .null, .null, .null, .int 0, .int 0]) xc_9 (x_at tdX9_init 5 rfl) wf_X9_9 (by decide) rfl rfl rfl rfl (Nat.le_of_ble_eq_true rfl) rfl ?_
  refine n_aload_n (x_at tdX9_init 6 rfl) rfl rfl ?_
  refine n_bipush (x_at tdX9_init 7 rfl) (v := 30) (by decide) ?_
  refine n_newiH (t := 0) (n := 30) (x_at tdX9_init 8 rfl) rfl wa_int rfl (fun _ _ => rfl) rfl (Nat.le_of_ble_eq_true rfl) (by decide) (by decide) (Nat.le_of_ble_eq_true rfl) (Nat.le_of_ble_eq_true rfl) (fun q2 => ?_)
  refine n_putF (k := 2) (fs' := [.null, .ref q1, .ref q2, .null, .null, .null, .int 0, .int 0]) xc_9 (x_at tdX9_init 9 rfl) wf_X9_15 (by decide) rfl rfl rfl rfl (Nat.le_of_ble_eq_true rfl) rfl ?_
  refine n_aload_n (x_at tdX9_init 10 rfl) rfl rfl ?_
  refine n_bipush (x_at tdX9_init 11 rfl) (v := 30) (by decide) ?_
  refine n_newiH (t := 2) (n := 30) (x_at tdX9_init 12 rfl) rfl wa_boolean rfl (fun _ _ => rfl) rfl (Nat.le_of_ble_eq_true rfl) (by decide) (by decide) (Nat.le_of_ble_eq_true rfl) (Nat.le_of_ble_eq_true rfl) (fun q3 => ?_)
  refine n_putF (k := 3) (fs' := [.null, .ref q1, .ref q2, .ref q3, .null, .null, .int 0, .int 0]) xc_9 (x_at tdX9_init 13 rfl) wf_X9_18 (by decide) rfl rfl rfl rfl (Nat.le_of_ble_eq_true rfl) rfl ?_
  refine n_aload_n (x_at tdX9_init 14 rfl) rfl rfl ?_
  refine n_bipush (x_at tdX9_init 15 rfl) (v := 30) (by decide) ?_
  refine n_newiH (t := 0) (n := 30) (x_at tdX9_init 16 rfl) rfl wa_int rfl (fun _ _ => rfl) rfl (Nat.le_of_ble_eq_true rfl) (by decide) (by decide) (Nat.le_of_ble_eq_true rfl) (Nat.le_of_ble_eq_true rfl) (fun q4 => ?_)
  refine n_putF (k := 4) (fs' := [.null, .ref q1, .ref q2, .ref q3, .ref q4, .null, .int 0, .int 0]) xc_9 (x_at tdX9_init 17 rfl) wf_X9_22 (by decide) rfl rfl rfl rfl (Nat.le_of_ble_eq_true rfl) rfl ?_
  refine n_aload_n (x_at tdX9_init 18 rfl) rfl rfl ?_
  refine n_bipush (x_at tdX9_init 19 rfl) (v := 30) (by decide) ?_
  refine n_newiH (t := 0) (n := 30) (x_at tdX9_init 20 rfl) rfl wa_int rfl (fun _ _ => rfl) rfl (Nat.le_of_ble_eq_true rfl) (by decide) (by decide) (Nat.le_of_ble_eq_true rfl) (Nat.le_of_ble_eq_true rfl) (fun q5 => ?_)
  refine n_putF (k := 5) (fs' := [.null, .ref q1, .ref q2, .ref q3, .ref q4, .ref q5, .int 0, .int 0]) xc_9 (x_at tdX9_init 21 rfl) wf_X9_25 (by decide) rfl rfl rfl rfl (Nat.le_of_ble_eq_true rfl) rfl ?_
  refine n_aload_n (x_at tdX9_init 22 rfl) rfl rfl ?_
  refine n_aload_n (x_at tdX9_init 23 rfl) rfl rfl ?_
  refine n_putF (k := 0) (fs' := [.ref r1, .ref q1, .ref q2, .ref q3, .ref q4, .ref q5, .int 0, .int 0]) xc_9 (x_at tdX9_init 24 rfl) wf_X9_28 (by decide) rfl rfl rfl rfl (Nat.le_of_ble_eq_true rfl) rfl ?_
  exact n_return rfl (x_at tdX9_init 25 rfl) ⟨fun i => [0, q1, q2, q3, q4, q5].getD i 0, rfl⟩
end
