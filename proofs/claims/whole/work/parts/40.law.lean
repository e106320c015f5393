theorem bp_31 : (Int8.ofInt 31).toInt32 = 31 := by decide
theorem ic_6 : Int32.ofInt 6 = 6 := by decide
theorem cb_L_96 : CBH RL 96 yL_addSheet cL_addSheet 6 (some .int) [(0, 12, 15, 13), (0, 12, 19, 15)] 5 := ⟨mw 5 0 rfl rfl, mw 5 2 rfl rfl, mw 5 3 rfl rfl, by decide, by decide, by decide +kernel, mw 5 1 rfl rfl⟩
theorem cb_L_101 : CBV RL 101 yX11_addSheet cX11_addSheet 4 (some .int) 3 12 := ⟨⟨mw 7 2 rfl rfl, mw 0 5 rfl rfl, mw 7 5 rfl rfl, by decide, by decide, by decide +kernel⟩, mw 7 3 rfl rfl, mw 7 4 rfl rfl, TX11, 48, tyX11, cl_X11⟩
theorem cb_L_102 : CBV RL 102 yX11_thrown cX11_thrown 1 (some .int) 0 12 := ⟨⟨mw 8 2 rfl rfl, mw 0 5 rfl rfl, mw 8 5 rfl rfl, by decide, by decide, by decide +kernel⟩, mw 8 3 rfl rfl, mw 8 4 rfl rfl, TX11, 48, tyX11, cl_X11⟩
theorem cb_L_105 : CBH RL 105 yL_addShape cL_addShape 8 (some .int) [(0, 16, 19, 13), (0, 16, 23, 15)] 7 := ⟨mw 8 6 rfl rfl, mw 5 2 rfl rfl, mw 8 8 rfl rfl, by decide, by decide, by decide +kernel, mw 8 7 rfl rfl⟩
theorem cb_L_108 : CBV RL 108 yX11_addShape cX11_addShape 7 (some .int) 5 12 := ⟨⟨mw 9 7 rfl rfl, mw 0 5 rfl rfl, mw 9 10 rfl rfl, by decide, by decide, by decide +kernel⟩, mw 9 8 rfl rfl, mw 9 9 rfl rfl, TX11, 48, tyX11, cl_X11⟩
theorem cb_L_109 : CBH RL 109 yL_spoil cL_spoil 5 (some .int) [(0, 10, 13, 25), (0, 10, 17, 27)] 4 := ⟨mw 10 1 rfl rfl, mw 5 2 rfl rfl, mw 10 3 rfl rfl, by decide, by decide, by decide +kernel, mw 10 2 rfl rfl⟩
theorem cb_L_112 : CBV RL 112 yX11_spoil cX11_spoil 3 (some .int) 2 12 := ⟨⟨mw 11 21 rfl rfl, mw 0 5 rfl rfl, mw 11 24 rfl rfl, by decide, by decide, by decide +kernel⟩, mw 11 22 rfl rfl, mw 11 23 rfl rfl, TX11, 48, tyX11, cl_X11⟩
theorem cb_L_113 : CBH RL 113 yL_sheet cL_sheet 5 (some .int) [(0, 10, 13, 25), (0, 10, 17, 13)] 4 := ⟨mw 13 4 rfl rfl, mw 5 2 rfl rfl, mw 13 6 rfl rfl, by decide, by decide, by decide +kernel, mw 13 5 rfl rfl⟩
theorem cb_L_115 : CBV RL 115 yX11_sheet cX11_sheet 6 (some .int) 2 12 := ⟨⟨mw 14 28 rfl rfl, mw 0 5 rfl rfl, mw 14 31 rfl rfl, by decide, by decide, by decide +kernel⟩, mw 14 29 rfl rfl, mw 14 30 rfl rfl, TX11, 48, tyX11, cl_X11⟩
theorem cb_L_116 : CBH RL 116 yL_cell cL_cell 5 (some .int) [(0, 10, 13, 25)] 4 := ⟨mw 15 24 rfl rfl, mw 5 2 rfl rfl, mw 15 26 rfl rfl, by decide, by decide, by decide +kernel, mw 15 25 rfl rfl⟩
theorem cb_L_118 : CBV RL 118 yX11_cell cX11_cell 3 (some .int) 2 12 := ⟨⟨mw 15 31 rfl rfl, mw 0 5 rfl rfl, mw 16 2 rfl rfl, by decide, by decide, by decide +kernel⟩, mw 16 0 rfl rfl, mw 16 1 rfl rfl, TX11, 48, tyX11, cl_X11⟩
theorem cb_L_119 : CBH RL 119 yL_shape cL_shape 5 (some .int) [(0, 10, 13, 25), (0, 10, 17, 13)] 4 := ⟨mw 16 3 rfl rfl, mw 5 2 rfl rfl, mw 16 5 rfl rfl, by decide, by decide, by decide +kernel, mw 16 4 rfl rfl⟩
theorem cb_L_121 : CBV RL 121 yX11_shape cX11_shape 3 (some .int) 2 12 := ⟨⟨mw 17 9 rfl rfl, mw 0 5 rfl rfl, mw 17 12 rfl rfl, by decide, by decide, by decide +kernel⟩, mw 17 10 rfl rfl, mw 17 11 rfl rfl, TX11, 48, tyX11, cl_X11⟩
theorem cb_L_122 : CBH RL 122 yL_turned cL_turned 5 (some .int) [(0, 10, 13, 25), (0, 10, 17, 13)] 4 := ⟨mw 18 0 rfl rfl, mw 5 2 rfl rfl, mw 18 2 rfl rfl, by decide, by decide, by decide +kernel, mw 18 1 rfl rfl⟩
theorem cb_L_124 : CBV RL 124 yX11_turned cX11_turned 3 (some .int) 2 12 := ⟨⟨mw 18 11 rfl rfl, mw 0 5 rfl rfl, mw 18 14 rfl rfl, by decide, by decide, by decide +kernel⟩, mw 18 12 rfl rfl, mw 18 13 rfl rfl, TX11, 48, tyX11, cl_X11⟩
theorem cb_L_125 : CBH RL 125 yL_place cL_place 8 (some .int) [(0, 16, 19, 25), (0, 16, 23, 13), (0, 16, 27, 27)] 7 := ⟨mw 18 15 rfl rfl, mw 5 2 rfl rfl, mw 18 17 rfl rfl, by decide, by decide, by decide +kernel, mw 18 16 rfl rfl⟩
theorem cb_L_127 : CBV RL 127 yX11_place cX11_place 7 (some .int) 5 12 := ⟨⟨mw 20 21 rfl rfl, mw 0 5 rfl rfl, mw 20 24 rfl rfl, by decide, by decide, by decide +kernel⟩, mw 20 22 rfl rfl, mw 20 23 rfl rfl, TX11, 48, tyX11, cl_X11⟩
theorem cb_L_128 : CBH RL 128 yL_take cL_take 4 (some .int) [(0, 9, 12, 25)] 3 := ⟨mw 21 15 rfl rfl, mw 5 2 rfl rfl, mw 21 17 rfl rfl, by decide, by decide, by decide +kernel, mw 21 16 rfl rfl⟩
theorem cb_L_131 : CBV RL 131 yX11_take cX11_take 4 (some .int) 1 12 := ⟨⟨mw 22 9 rfl rfl, mw 0 5 rfl rfl, mw 22 12 rfl rfl, by decide, by decide, by decide +kernel⟩, mw 22 10 rfl rfl, mw 22 11 rfl rfl, TX11, 48, tyX11, cl_X11⟩
theorem cb_L_132 : CBH RL 132 yL_part cL_part 5 (some .int) [(0, 10, 13, 25), (0, 10, 17, 13)] 4 := ⟨mw 22 17 rfl rfl, mw 5 2 rfl rfl, mw 22 19 rfl rfl, by decide, by decide, by decide +kernel, mw 22 18 rfl rfl⟩
theorem cb_L_134 : CBV RL 134 yX11_part cX11_part 3 (some .int) 2 12 := ⟨⟨mw 23 27 rfl rfl, mw 0 5 rfl rfl, mw 23 30 rfl rfl, by decide, by decide, by decide +kernel⟩, mw 23 28 rfl rfl, mw 23 29 rfl rfl, TX11, 48, tyX11, cl_X11⟩
theorem cb_L_135 : CBH RL 135 yL_reason cL_reason 5 (some .int) [(0, 10, 13, 55)] 4 := ⟨mw 24 19 rfl rfl, mw 5 2 rfl rfl, mw 24 21 rfl rfl, by decide, by decide, by decide +kernel, mw 24 20 rfl rfl⟩
theorem cb_L_138 : CBV RL 138 yX11_reason cX11_reason 3 (some .int) 2 12 := ⟨⟨mw 25 12 rfl rfl, mw 0 5 rfl rfl, mw 25 15 rfl rfl, by decide, by decide, by decide +kernel⟩, mw 25 13 rfl rfl, mw 25 14 rfl rfl, TX11, 48, tyX11, cl_X11⟩
theorem cb_L_139 : CBH RL 139 yL_nest cL_nest 4 (some .int) [(0, 9, 12, 25), (0, 9, 15, 55)] 3 := ⟨mw 25 16 rfl rfl, mw 5 2 rfl rfl, mw 25 18 rfl rfl, by decide, by decide, by decide +kernel, mw 25 17 rfl rfl⟩
theorem cb_L_141 : CBV RL 141 yX11_nest cX11_nest 2 (some .int) 1 12 := ⟨⟨mw 26 19 rfl rfl, mw 0 5 rfl rfl, mw 26 22 rfl rfl, by decide, by decide, by decide +kernel⟩, mw 26 20 rfl rfl, mw 26 21 rfl rfl, TX11, 48, tyX11, cl_X11⟩
theorem cb_L_142 : CBV RL 142 yX10_nestAll cX10_nestAll 6 (some .int) 0 11 := ⟨⟨mw 27 3 rfl rfl, mw 0 2 rfl rfl, mw 27 6 rfl rfl, by decide, by decide, by decide +kernel⟩, mw 27 4 rfl rfl, mw 27 5 rfl rfl, TX10, 12, tyX10, cl_X10⟩
theorem cb_L_145 : CBV RL 145 yX11_nestAll cX11_nestAll 2 (some .int) 0 12 := ⟨⟨mw 27 7 rfl rfl, mw 0 5 rfl rfl, mw 27 10 rfl rfl, by decide, by decide, by decide +kernel⟩, mw 27 8 rfl rfl, mw 27 9 rfl rfl, TX11, 48, tyX11, cl_X11⟩
theorem cb_L_146 : CBH RL 146 yL_remnant cL_remnant 6 (some .int) [(0, 12, 15, 25), (0, 12, 19, 13)] 5 := ⟨mw 27 15 rfl rfl, mw 5 2 rfl rfl, mw 27 17 rfl rfl, by decide, by decide, by decide +kernel, mw 27 16 rfl rfl⟩
theorem cb_L_148 : CBV RL 148 yX11_remnant cX11_remnant 4 (some .int) 3 12 := ⟨⟨mw 29 7 rfl rfl, mw 0 5 rfl rfl, mw 29 10 rfl rfl, by decide, by decide, by decide +kernel⟩, mw 29 8 rfl rfl, mw 29 9 rfl rfl, TX11, 48, tyX11, cl_X11⟩
theorem cb_L_149 : CBH RL 149 yL_keep cL_keep 5 (some .int) [(0, 10, 13, 25), (0, 10, 17, 15)] 4 := ⟨mw 30 0 rfl rfl, mw 5 2 rfl rfl, mw 30 2 rfl rfl, by decide, by decide, by decide +kernel, mw 30 1 rfl rfl⟩
theorem cb_L_151 : CBV RL 151 yX11_keep cX11_keep 9 (some .int) 2 12 := ⟨⟨mw 30 16 rfl rfl, mw 0 5 rfl rfl, mw 30 19 rfl rfl, by decide, by decide, by decide +kernel⟩, mw 30 17 rfl rfl, mw 30 18 rfl rfl, TX11, 48, tyX11, cl_X11⟩
theorem cb_L_152 : CBH RL 152 yL_way cL_way 6 (some .int) [(0, 12, 15, 25), (0, 12, 19, 13), (0, 12, 23, 27), (0, 12, 27, 55)] 5 := ⟨mw 30 20 rfl rfl, mw 5 2 rfl rfl, mw 30 22 rfl rfl, by decide, by decide, by decide +kernel, mw 30 21 rfl rfl⟩
theorem cb_L_154 : CBV RL 154 yX11_way cX11_way 4 (some .int) 3 12 := ⟨⟨mw 32 9 rfl rfl, mw 0 5 rfl rfl, mw 32 12 rfl rfl, by decide, by decide, by decide +kernel⟩, mw 32 10 rfl rfl, mw 32 11 rfl rfl, TX11, 48, tyX11, cl_X11⟩
theorem cb_L_155 : CBH RL 155 yL_usedShare cL_usedShare 3 (some .int) [(0, 8, 11, 73)] 2 := ⟨mw 33 4 rfl rfl, mw 5 2 rfl rfl, mw 33 6 rfl rfl, by decide, by decide, by decide +kernel, mw 33 5 rfl rfl⟩
theorem cb_L_158 : CBV RL 158 yX11_usedShare cX11_usedShare 5 (some .float) 0 12 := ⟨⟨mw 33 14 rfl rfl, mw 0 5 rfl rfl, mw 33 17 rfl rfl, by decide, by decide, by decide +kernel⟩, mw 33 15 rfl rfl, mw 33 16 rfl rfl, TX11, 48, tyX11, cl_X11⟩
theorem cb_L_159 : CBH RL 159 yL_count cL_count 4 (some .int) [(0, 9, 12, 13)] 3 := ⟨mw 33 18 rfl rfl, mw 5 2 rfl rfl, mw 33 20 rfl rfl, by decide, by decide, by decide +kernel, mw 33 19 rfl rfl⟩
theorem cb_L_161 : CBV RL 161 yX11_count cX11_count 4 (some .int) 1 12 := ⟨⟨mw 34 9 rfl rfl, mw 0 5 rfl rfl, mw 34 12 rfl rfl, by decide, by decide, by decide +kernel⟩, mw 34 10 rfl rfl, mw 34 11 rfl rfl, TX11, 48, tyX11, cl_X11⟩
theorem cb_L_162 : CBH RL 162 yL_feed cL_feed 4 (some .int) [(0, 9, 12, 15)] 3 := ⟨mw 34 14 rfl rfl, mw 5 2 rfl rfl, mw 34 16 rfl rfl, by decide, by decide, by decide +kernel, mw 34 15 rfl rfl⟩
theorem cb_L_165 : CBV RL 165 yX11_feed cX11_feed 2 (some .int) 1 12 := ⟨⟨mw 34 29 rfl rfl, mw 0 5 rfl rfl, mw 35 0 rfl rfl, by decide, by decide, by decide +kernel⟩, mw 34 30 rfl rfl, mw 34 31 rfl rfl, TX11, 48, tyX11, cl_X11⟩
theorem cb_L_166 : CBV RL 166 yX10_read cX10_read 3 (some .int) 0 11 := ⟨⟨mw 35 1 rfl rfl, mw 0 2 rfl rfl, mw 35 4 rfl rfl, by decide, by decide, by decide +kernel⟩, mw 35 2 rfl rfl, mw 35 3 rfl rfl, TX10, 12, tyX10, cl_X10⟩
theorem cb_L_169 : CBV RL 169 yX11_read cX11_read 3 (some .int) 0 12 := ⟨⟨mw 39 0 rfl rfl, mw 0 5 rfl rfl, mw 39 3 rfl rfl, by decide, by decide, by decide +kernel⟩, mw 39 1 rfl rfl, mw 39 2 rfl rfl, TX11, 48, tyX11, cl_X11⟩
theorem cb_L_170 : CBH RL 170 yL_fault cL_fault 5 (some .int) [(0, 10, 13, 55)] 4 := ⟨mw 40 30 rfl rfl, mw 5 2 rfl rfl, mw 41 0 rfl rfl, by decide, by decide, by decide +kernel, mw 40 31 rfl rfl⟩
theorem cb_L_172 : CBV RL 172 yX11_fault cX11_fault 3 (some .int) 2 12 := ⟨⟨mw 41 5 rfl rfl, mw 0 5 rfl rfl, mw 41 8 rfl rfl, by decide, by decide, by decide +kernel⟩, mw 41 6 rfl rfl, mw 41 7 rfl rfl, TX11, 48, tyX11, cl_X11⟩
theorem cb_L_173 : CBH RL 173 yL_undo cL_undo 3 (some .int) [(0, 8, 11, 15)] 2 := ⟨mw 41 9 rfl rfl, mw 5 2 rfl rfl, mw 41 11 rfl rfl, by decide, by decide, by decide +kernel, mw 41 10 rfl rfl⟩
theorem cb_L_176 : CBV RL 176 yX11_undo cX11_undo 2 (some .int) 0 12 := ⟨⟨mw 41 20 rfl rfl, mw 0 5 rfl rfl, mw 41 23 rfl rfl, by decide, by decide, by decide +kernel⟩, mw 41 21 rfl rfl, mw 41 22 rfl rfl, TX11, 48, tyX11, cl_X11⟩
theorem cb_L_177 : CBV RL 177 yX10_saveSnapshot cX10_saveSnapshot 1 (some .int) 0 11 := ⟨⟨mw 41 24 rfl rfl, mw 0 2 rfl rfl, mw 41 27 rfl rfl, by decide, by decide, by decide +kernel⟩, mw 41 25 rfl rfl, mw 41 26 rfl rfl, TX10, 12, tyX10, cl_X10⟩
theorem cb_L_180 : CBV RL 180 yX11_saveSnapshot cX11_saveSnapshot 2 (some .int) 0 12 := ⟨⟨mw 41 28 rfl rfl, mw 0 5 rfl rfl, mw 41 31 rfl rfl, by decide, by decide, by decide +kernel⟩, mw 41 29 rfl rfl, mw 41 30 rfl rfl, TX11, 48, tyX11, cl_X11⟩
theorem cb_L_181 : CBH RL 181 yL_restoreSnapshot cL_restoreSnapshot 3 (some .int) [(0, 8, 11, 15)] 2 := ⟨mw 42 1 rfl rfl, mw 5 2 rfl rfl, mw 42 3 rfl rfl, by decide, by decide, by decide +kernel, mw 42 2 rfl rfl⟩
theorem cb_L_183 : CBV RL 183 yX11_restoreSnapshot cX11_restoreSnapshot 2 (some .int) 0 12 := ⟨⟨mw 42 12 rfl rfl, mw 0 5 rfl rfl, mw 42 15 rfl rfl, by decide, by decide, by decide +kernel⟩, mw 42 13 rfl rfl, mw 42 14 rfl rfl, TX11, 48, tyX11, cl_X11⟩
theorem law_le {k a b c : Nat} (h : k + a ≤ c) (hb : b ≤ a) : k + b ≤ c := Nat.le_trans (Nat.add_le_add_left hb k) h
theorem law_l0 {k a c : Nat} (h : k + a ≤ c) : k ≤ c := Nat.le_trans (Nat.le_add_right k a) h
def I_L_law_0 : List (Nat × Instr × Nat) := [(0, .new 8, 3), (3, .dup, 1), (4, .invokespecial 92, 3), (7, .astore_n 1, 1), (8, .new 93, 3), (11, .dup, 1), (12, .invokespecial 95, 3), (15, .astore_n 2, 1), (16, .iconst 1, 1), (17, .newarray .long, 2), (19, .astore_n 3, 1), (20, .iconst 1, 1), (21, .newarray .double, 2), (23, .astore 4, 2), (25, .iconst 0, 1), (26, .istore 5, 2), (28, .iload 5, 2), (30, .aload_n 0, 1), (31, .arraylength, 1), (32, .bipush 6, 2), (34, .isub, 1), (35, .if_icmp .gt 1638, 3), (38, .aload_n 0, 1), (39, .iload 5, 2), (41, .iaload, 1), (42, .bipush 31, 2), (44, .iand, 1), (45, .tableswitch 1622 0 23 #[111, 191, 295, 363, 431, 499, 567, 635, 739, 795, 863, 947, 1003, 1016, 1096, 1164, 1244, 1310, 1366, 1424, 1437, 1521, 1565, 1578], 111), (156, .aload_n 1, 1), (157, .aload_n 0, 1), (158, .iload 5, 2), (160, .iconst 1, 1), (161, .iadd, 1), (162, .iaload, 1), (163, .aload_n 0, 1), (164, .iload 5, 2), (166, .iconst 2, 1), (167, .iadd, 1), (168, .iaload, 1), (169, .aload_n 0, 1), (170, .iload 5, 2), (172, .iconst 3, 1), (173, .iadd, 1), (174, .iaload, 1), (175, .aload_n 3, 1), (176, .invokestatic 96, 3), (179, .istore 6, 2), (181, .aload_n 2, 1), (182, .aload_n 0, 1), (183, .iload 5, 2), (185, .iconst 1, 1), (186, .iadd, 1), (187, .iaload, 1), (188, .aload_n 0, 1), (189, .iload 5, 2), (191, .iconst 2, 1), (192, .iadd, 1), (193, .iaload, 1), (194, .aload_n 0, 1), (195, .iload 5, 2), (197, .iconst 3, 1), (198, .iadd, 1), (199, .iaload, 1), (200, .invokevirtual 101, 3)]
set_option maxRecDepth 100000 in
theorem T_L_law_0 : ∀ q ∈ I_L_law_0, decode cL_law q.1 = .ok (q.2.1, q.2.2) := by decide +kernel
def I_L_law_1 : List (Nat × Instr × Nat) := [(203, .istore 7, 2), (205, .aload_n 2, 1), (206, .invokevirtual 102, 3), (209, .iload 6, 2), (211, .if_icmp .eq 5, 3), (214, .iconst 0, 1), (215, .ireturn, 1), (216, .iload 6, 2), (218, .ifCond .ne 15, 3), (221, .aload_n 3, 1), (222, .iconst 0, 1), (223, .laload, 1), (224, .iload 7, 2), (226, .i2l, 1), (227, .lcmp, 1), (228, .ifCond .eq 5, 3), (231, .iconst 0, 1), (232, .ireturn, 1), (233, .goto 1434, 3), (236, .aload_n 1, 1), (237, .aload_n 0, 1), (238, .iload 5, 2), (240, .iconst 1, 1), (241, .iadd, 1), (242, .iaload, 1), (243, .aload_n 0, 1), (244, .iload 5, 2), (246, .iconst 2, 1), (247, .iadd, 1), (248, .iaload, 1), (249, .aload_n 0, 1), (250, .iload 5, 2), (252, .iconst 3, 1), (253, .iadd, 1), (254, .iaload, 1), (255, .aload_n 0, 1), (256, .iload 5, 2), (258, .iconst 4, 1), (259, .iadd, 1), (260, .iaload, 1), (261, .aload_n 0, 1), (262, .iload 5, 2), (264, .iconst 5, 1), (265, .iadd, 1), (266, .iaload, 1), (267, .aload_n 3, 1), (268, .invokestatic 105, 3), (271, .istore 6, 2), (273, .aload_n 2, 1), (274, .aload_n 0, 1), (275, .iload 5, 2), (277, .iconst 1, 1), (278, .iadd, 1), (279, .iaload, 1), (280, .aload_n 0, 1), (281, .iload 5, 2), (283, .iconst 2, 1), (284, .iadd, 1), (285, .iaload, 1), (286, .aload_n 0, 1), (287, .iload 5, 2), (289, .iconst 3, 1), (290, .iadd, 1), (291, .iaload, 1)]
set_option maxRecDepth 100000 in
theorem T_L_law_1 : ∀ q ∈ I_L_law_1, decode cL_law q.1 = .ok (q.2.1, q.2.2) := by decide +kernel
def I_L_law_2 : List (Nat × Instr × Nat) := [(292, .aload_n 0, 1), (293, .iload 5, 2), (295, .iconst 4, 1), (296, .iadd, 1), (297, .iaload, 1), (298, .aload_n 0, 1), (299, .iload 5, 2), (301, .iconst 5, 1), (302, .iadd, 1), (303, .iaload, 1), (304, .invokevirtual 108, 3), (307, .istore 7, 2), (309, .aload_n 2, 1), (310, .invokevirtual 102, 3), (313, .iload 6, 2), (315, .if_icmp .eq 5, 3), (318, .iconst 0, 1), (319, .ireturn, 1), (320, .iload 6, 2), (322, .ifCond .ne 15, 3), (325, .aload_n 3, 1), (326, .iconst 0, 1), (327, .laload, 1), (328, .iload 7, 2), (330, .i2l, 1), (331, .lcmp, 1), (332, .ifCond .eq 5, 3), (335, .iconst 0, 1), (336, .ireturn, 1), (337, .goto 1330, 3), (340, .aload_n 1, 1), (341, .aload_n 0, 1), (342, .iload 5, 2), (344, .iconst 1, 1), (345, .iadd, 1), (346, .iaload, 1), (347, .aload_n 0, 1), (348, .iload 5, 2), (350, .iconst 2, 1), (351, .iadd, 1), (352, .iaload, 1), (353, .aload_n 3, 1), (354, .invokestatic 109, 3), (357, .istore 6, 2), (359, .aload_n 2, 1), (360, .aload_n 0, 1), (361, .iload 5, 2), (363, .iconst 1, 1), (364, .iadd, 1), (365, .iaload, 1), (366, .aload_n 0, 1), (367, .iload 5, 2), (369, .iconst 2, 1), (370, .iadd, 1), (371, .iaload, 1), (372, .invokevirtual 112, 3), (375, .istore 7, 2), (377, .aload_n 2, 1), (378, .invokevirtual 102, 3), (381, .iload 6, 2), (383, .if_icmp .eq 5, 3), (386, .iconst 0, 1), (387, .ireturn, 1), (388, .iload 6, 2)]
set_option maxRecDepth 100000 in
theorem T_L_law_2 : ∀ q ∈ I_L_law_2, decode cL_law q.1 = .ok (q.2.1, q.2.2) := by decide +kernel
def I_L_law_3 : List (Nat × Instr × Nat) := [(390, .ifCond .ne 15, 3), (393, .aload_n 3, 1), (394, .iconst 0, 1), (395, .laload, 1), (396, .iload 7, 2), (398, .i2l, 1), (399, .lcmp, 1), (400, .ifCond .eq 5, 3), (403, .iconst 0, 1), (404, .ireturn, 1), (405, .goto 1262, 3), (408, .aload_n 1, 1), (409, .aload_n 0, 1), (410, .iload 5, 2), (412, .iconst 1, 1), (413, .iadd, 1), (414, .iaload, 1), (415, .aload_n 0, 1), (416, .iload 5, 2), (418, .iconst 2, 1), (419, .iadd, 1), (420, .iaload, 1), (421, .aload_n 3, 1), (422, .invokestatic 113, 3), (425, .istore 6, 2), (427, .aload_n 2, 1), (428, .aload_n 0, 1), (429, .iload 5, 2), (431, .iconst 1, 1), (432, .iadd, 1), (433, .iaload, 1), (434, .aload_n 0, 1), (435, .iload 5, 2), (437, .iconst 2, 1), (438, .iadd, 1), (439, .iaload, 1), (440, .invokevirtual 115, 3), (443, .istore 7, 2), (445, .aload_n 2, 1), (446, .invokevirtual 102, 3), (449, .iload 6, 2), (451, .if_icmp .eq 5, 3), (454, .iconst 0, 1), (455, .ireturn, 1), (456, .iload 6, 2), (458, .ifCond .ne 15, 3), (461, .aload_n 3, 1), (462, .iconst 0, 1), (463, .laload, 1), (464, .iload 7, 2), (466, .i2l, 1), (467, .lcmp, 1), (468, .ifCond .eq 5, 3), (471, .iconst 0, 1), (472, .ireturn, 1), (473, .goto 1194, 3), (476, .aload_n 1, 1), (477, .aload_n 0, 1), (478, .iload 5, 2), (480, .iconst 1, 1), (481, .iadd, 1), (482, .iaload, 1), (483, .aload_n 0, 1), (484, .iload 5, 2)]
set_option maxRecDepth 100000 in
theorem T_L_law_3 : ∀ q ∈ I_L_law_3, decode cL_law q.1 = .ok (q.2.1, q.2.2) := by decide +kernel
def I_L_law_4 : List (Nat × Instr × Nat) := [(486, .iconst 2, 1), (487, .iadd, 1), (488, .iaload, 1), (489, .aload_n 3, 1), (490, .invokestatic 116, 3), (493, .istore 6, 2), (495, .aload_n 2, 1), (496, .aload_n 0, 1), (497, .iload 5, 2), (499, .iconst 1, 1), (500, .iadd, 1), (501, .iaload, 1), (502, .aload_n 0, 1), (503, .iload 5, 2), (505, .iconst 2, 1), (506, .iadd, 1), (507, .iaload, 1), (508, .invokevirtual 118, 3), (511, .istore 7, 2), (513, .aload_n 2, 1), (514, .invokevirtual 102, 3), (517, .iload 6, 2), (519, .if_icmp .eq 5, 3), (522, .iconst 0, 1), (523, .ireturn, 1), (524, .iload 6, 2), (526, .ifCond .ne 15, 3), (529, .aload_n 3, 1), (530, .iconst 0, 1), (531, .laload, 1), (532, .iload 7, 2), (534, .i2l, 1), (535, .lcmp, 1), (536, .ifCond .eq 5, 3), (539, .iconst 0, 1), (540, .ireturn, 1), (541, .goto 1126, 3), (544, .aload_n 1, 1), (545, .aload_n 0, 1), (546, .iload 5, 2), (548, .iconst 1, 1), (549, .iadd, 1), (550, .iaload, 1), (551, .aload_n 0, 1), (552, .iload 5, 2), (554, .iconst 2, 1), (555, .iadd, 1), (556, .iaload, 1), (557, .aload_n 3, 1), (558, .invokestatic 119, 3), (561, .istore 6, 2), (563, .aload_n 2, 1), (564, .aload_n 0, 1), (565, .iload 5, 2), (567, .iconst 1, 1), (568, .iadd, 1), (569, .iaload, 1), (570, .aload_n 0, 1), (571, .iload 5, 2), (573, .iconst 2, 1), (574, .iadd, 1), (575, .iaload, 1), (576, .invokevirtual 121, 3), (579, .istore 7, 2)]
set_option maxRecDepth 100000 in
theorem T_L_law_4 : ∀ q ∈ I_L_law_4, decode cL_law q.1 = .ok (q.2.1, q.2.2) := by decide +kernel
def I_L_law_5 : List (Nat × Instr × Nat) := [(581, .aload_n 2, 1), (582, .invokevirtual 102, 3), (585, .iload 6, 2), (587, .if_icmp .eq 5, 3), (590, .iconst 0, 1), (591, .ireturn, 1), (592, .iload 6, 2), (594, .ifCond .ne 15, 3), (597, .aload_n 3, 1), (598, .iconst 0, 1), (599, .laload, 1), (600, .iload 7, 2), (602, .i2l, 1), (603, .lcmp, 1), (604, .ifCond .eq 5, 3), (607, .iconst 0, 1), (608, .ireturn, 1), (609, .goto 1058, 3), (612, .aload_n 1, 1), (613, .aload_n 0, 1), (614, .iload 5, 2), (616, .iconst 1, 1), (617, .iadd, 1), (618, .iaload, 1), (619, .aload_n 0, 1), (620, .iload 5, 2), (622, .iconst 2, 1), (623, .iadd, 1), (624, .iaload, 1), (625, .aload_n 3, 1), (626, .invokestatic 122, 3), (629, .istore 6, 2), (631, .aload_n 2, 1), (632, .aload_n 0, 1), (633, .iload 5, 2), (635, .iconst 1, 1), (636, .iadd, 1), (637, .iaload, 1), (638, .aload_n 0, 1), (639, .iload 5, 2), (641, .iconst 2, 1), (642, .iadd, 1), (643, .iaload, 1), (644, .invokevirtual 124, 3), (647, .istore 7, 2), (649, .aload_n 2, 1), (650, .invokevirtual 102, 3), (653, .iload 6, 2), (655, .if_icmp .eq 5, 3), (658, .iconst 0, 1), (659, .ireturn, 1), (660, .iload 6, 2), (662, .ifCond .ne 15, 3), (665, .aload_n 3, 1), (666, .iconst 0, 1), (667, .laload, 1), (668, .iload 7, 2), (670, .i2l, 1), (671, .lcmp, 1), (672, .ifCond .eq 5, 3), (675, .iconst 0, 1), (676, .ireturn, 1), (677, .goto 990, 3), (680, .aload_n 1, 1)]
set_option maxRecDepth 100000 in
theorem T_L_law_5 : ∀ q ∈ I_L_law_5, decode cL_law q.1 = .ok (q.2.1, q.2.2) := by decide +kernel
def I_L_law_6 : List (Nat × Instr × Nat) := [(681, .aload_n 0, 1), (682, .iload 5, 2), (684, .iconst 1, 1), (685, .iadd, 1), (686, .iaload, 1), (687, .aload_n 0, 1), (688, .iload 5, 2), (690, .iconst 2, 1), (691, .iadd, 1), (692, .iaload, 1), (693, .aload_n 0, 1), (694, .iload 5, 2), (696, .iconst 3, 1), (697, .iadd, 1), (698, .iaload, 1), (699, .aload_n 0, 1), (700, .iload 5, 2), (702, .iconst 4, 1), (703, .iadd, 1), (704, .iaload, 1), (705, .aload_n 0, 1), (706, .iload 5, 2), (708, .iconst 5, 1), (709, .iadd, 1), (710, .iaload, 1), (711, .aload_n 3, 1), (712, .invokestatic 125, 3), (715, .istore 6, 2), (717, .aload_n 2, 1), (718, .aload_n 0, 1), (719, .iload 5, 2), (721, .iconst 1, 1), (722, .iadd, 1), (723, .iaload, 1), (724, .aload_n 0, 1), (725, .iload 5, 2), (727, .iconst 2, 1), (728, .iadd, 1), (729, .iaload, 1), (730, .aload_n 0, 1), (731, .iload 5, 2), (733, .iconst 3, 1), (734, .iadd, 1), (735, .iaload, 1), (736, .aload_n 0, 1), (737, .iload 5, 2), (739, .iconst 4, 1), (740, .iadd, 1), (741, .iaload, 1), (742, .aload_n 0, 1), (743, .iload 5, 2), (745, .iconst 5, 1), (746, .iadd, 1), (747, .iaload, 1), (748, .invokevirtual 127, 3), (751, .istore 7, 2), (753, .aload_n 2, 1), (754, .invokevirtual 102, 3), (757, .iload 6, 2), (759, .if_icmp .eq 5, 3), (762, .iconst 0, 1), (763, .ireturn, 1), (764, .iload 6, 2), (766, .ifCond .ne 15, 3)]
set_option maxRecDepth 100000 in
theorem T_L_law_6 : ∀ q ∈ I_L_law_6, decode cL_law q.1 = .ok (q.2.1, q.2.2) := by decide +kernel
def I_L_law_7 : List (Nat × Instr × Nat) := [(769, .aload_n 3, 1), (770, .iconst 0, 1), (771, .laload, 1), (772, .iload 7, 2), (774, .i2l, 1), (775, .lcmp, 1), (776, .ifCond .eq 5, 3), (779, .iconst 0, 1), (780, .ireturn, 1), (781, .goto 886, 3), (784, .aload_n 1, 1), (785, .aload_n 0, 1), (786, .iload 5, 2), (788, .iconst 1, 1), (789, .iadd, 1), (790, .iaload, 1), (791, .aload_n 3, 1), (792, .invokestatic 128, 3), (795, .istore 6, 2), (797, .aload_n 2, 1), (798, .aload_n 0, 1), (799, .iload 5, 2), (801, .iconst 1, 1), (802, .iadd, 1), (803, .iaload, 1), (804, .invokevirtual 131, 3), (807, .istore 7, 2), (809, .aload_n 2, 1), (810, .invokevirtual 102, 3), (813, .iload 6, 2), (815, .if_icmp .eq 5, 3), (818, .iconst 0, 1), (819, .ireturn, 1), (820, .iload 6, 2), (822, .ifCond .ne 15, 3), (825, .aload_n 3, 1), (826, .iconst 0, 1), (827, .laload, 1), (828, .iload 7, 2), (830, .i2l, 1), (831, .lcmp, 1), (832, .ifCond .eq 5, 3), (835, .iconst 0, 1), (836, .ireturn, 1), (837, .goto 830, 3), (840, .aload_n 1, 1), (841, .aload_n 0, 1), (842, .iload 5, 2), (844, .iconst 1, 1), (845, .iadd, 1), (846, .iaload, 1), (847, .aload_n 0, 1), (848, .iload 5, 2), (850, .iconst 2, 1), (851, .iadd, 1), (852, .iaload, 1), (853, .aload_n 3, 1), (854, .invokestatic 132, 3), (857, .istore 6, 2), (859, .aload_n 2, 1), (860, .aload_n 0, 1), (861, .iload 5, 2), (863, .iconst 1, 1), (864, .iadd, 1)]
set_option maxRecDepth 100000 in
theorem T_L_law_7 : ∀ q ∈ I_L_law_7, decode cL_law q.1 = .ok (q.2.1, q.2.2) := by decide +kernel
def I_L_law_8 : List (Nat × Instr × Nat) := [(865, .iaload, 1), (866, .aload_n 0, 1), (867, .iload 5, 2), (869, .iconst 2, 1), (870, .iadd, 1), (871, .iaload, 1), (872, .invokevirtual 134, 3), (875, .istore 7, 2), (877, .aload_n 2, 1), (878, .invokevirtual 102, 3), (881, .iload 6, 2), (883, .if_icmp .eq 5, 3), (886, .iconst 0, 1), (887, .ireturn, 1), (888, .iload 6, 2), (890, .ifCond .ne 15, 3), (893, .aload_n 3, 1), (894, .iconst 0, 1), (895, .laload, 1), (896, .iload 7, 2), (898, .i2l, 1), (899, .lcmp, 1), (900, .ifCond .eq 5, 3), (903, .iconst 0, 1), (904, .ireturn, 1), (905, .goto 762, 3), (908, .aload_n 1, 1), (909, .aload_n 0, 1), (910, .iload 5, 2), (912, .iconst 1, 1), (913, .iadd, 1), (914, .iaload, 1), (915, .aload_n 0, 1), (916, .iload 5, 2), (918, .iconst 2, 1), (919, .iadd, 1), (920, .iaload, 1), (921, .ifCond .eq 7, 3), (924, .iconst 1, 1), (925, .goto 4, 3), (928, .iconst 0, 1), (929, .aload_n 3, 1), (930, .invokestatic 135, 3), (933, .istore 6, 2), (935, .aload_n 2, 1), (936, .aload_n 0, 1), (937, .iload 5, 2), (939, .iconst 1, 1), (940, .iadd, 1), (941, .iaload, 1), (942, .aload_n 0, 1), (943, .iload 5, 2), (945, .iconst 2, 1), (946, .iadd, 1), (947, .iaload, 1), (948, .ifCond .eq 7, 3), (951, .iconst 1, 1), (952, .goto 4, 3), (955, .iconst 0, 1), (956, .invokevirtual 138, 3), (959, .istore 7, 2), (961, .aload_n 2, 1), (962, .invokevirtual 102, 3), (965, .iload 6, 2)]
set_option maxRecDepth 100000 in
theorem T_L_law_8 : ∀ q ∈ I_L_law_8, decode cL_law q.1 = .ok (q.2.1, q.2.2) := by decide +kernel
def I_L_law_9 : List (Nat × Instr × Nat) := [(967, .if_icmp .eq 5, 3), (970, .iconst 0, 1), (971, .ireturn, 1), (972, .iload 6, 2), (974, .ifCond .ne 15, 3), (977, .aload_n 3, 1), (978, .iconst 0, 1), (979, .laload, 1), (980, .iload 7, 2), (982, .i2l, 1), (983, .lcmp, 1), (984, .ifCond .eq 5, 3), (987, .iconst 0, 1), (988, .ireturn, 1), (989, .goto 678, 3), (992, .aload_n 1, 1), (993, .aload_n 0, 1), (994, .iload 5, 2), (996, .iconst 1, 1), (997, .iadd, 1), (998, .iaload, 1), (999, .aload_n 3, 1), (1000, .invokestatic 139, 3), (1003, .istore 6, 2), (1005, .aload_n 2, 1), (1006, .aload_n 0, 1), (1007, .iload 5, 2), (1009, .iconst 1, 1), (1010, .iadd, 1), (1011, .iaload, 1), (1012, .invokevirtual 141, 3), (1015, .istore 7, 2), (1017, .aload_n 2, 1), (1018, .invokevirtual 102, 3), (1021, .iload 6, 2), (1023, .if_icmp .eq 5, 3), (1026, .iconst 0, 1), (1027, .ireturn, 1), (1028, .iload 6, 2), (1030, .ifCond .ne 15, 3), (1033, .aload_n 3, 1), (1034, .iconst 0, 1), (1035, .laload, 1), (1036, .iload 7, 2), (1038, .i2l, 1), (1039, .lcmp, 1), (1040, .ifCond .eq 5, 3), (1043, .iconst 0, 1), (1044, .ireturn, 1), (1045, .goto 622, 3), (1048, .aload_n 1, 1), (1049, .invokevirtual 142, 3), (1052, .aload_n 2, 1), (1053, .invokevirtual 145, 3), (1056, .if_icmp .eq 611, 3), (1059, .iconst 0, 1), (1060, .ireturn, 1), (1061, .aload_n 1, 1), (1062, .aload_n 0, 1), (1063, .iload 5, 2), (1065, .iconst 1, 1), (1066, .iadd, 1), (1067, .iaload, 1), (1068, .aload_n 0, 1)]
set_option maxRecDepth 100000 in
theorem T_L_law_9 : ∀ q ∈ I_L_law_9, decode cL_law q.1 = .ok (q.2.1, q.2.2) := by decide +kernel
def I_L_law_10 : List (Nat × Instr × Nat) := [(1069, .iload 5, 2), (1071, .iconst 2, 1), (1072, .iadd, 1), (1073, .iaload, 1), (1074, .aload_n 0, 1), (1075, .iload 5, 2), (1077, .iconst 3, 1), (1078, .iadd, 1), (1079, .iaload, 1), (1080, .aload_n 3, 1), (1081, .invokestatic 146, 3), (1084, .istore 6, 2), (1086, .aload_n 2, 1), (1087, .aload_n 0, 1), (1088, .iload 5, 2), (1090, .iconst 1, 1), (1091, .iadd, 1), (1092, .iaload, 1), (1093, .aload_n 0, 1), (1094, .iload 5, 2), (1096, .iconst 2, 1), (1097, .iadd, 1), (1098, .iaload, 1), (1099, .aload_n 0, 1), (1100, .iload 5, 2), (1102, .iconst 3, 1), (1103, .iadd, 1), (1104, .iaload, 1), (1105, .invokevirtual 148, 3), (1108, .istore 7, 2), (1110, .aload_n 2, 1), (1111, .invokevirtual 102, 3), (1114, .iload 6, 2), (1116, .if_icmp .eq 5, 3), (1119, .iconst 0, 1), (1120, .ireturn, 1), (1121, .iload 6, 2), (1123, .ifCond .ne 15, 3), (1126, .aload_n 3, 1), (1127, .iconst 0, 1), (1128, .laload, 1), (1129, .iload 7, 2), (1131, .i2l, 1), (1132, .lcmp, 1), (1133, .ifCond .eq 5, 3), (1136, .iconst 0, 1), (1137, .ireturn, 1), (1138, .goto 529, 3), (1141, .aload_n 1, 1), (1142, .aload_n 0, 1), (1143, .iload 5, 2), (1145, .iconst 1, 1), (1146, .iadd, 1), (1147, .iaload, 1), (1148, .aload_n 0, 1), (1149, .iload 5, 2), (1151, .iconst 2, 1), (1152, .iadd, 1), (1153, .iaload, 1), (1154, .aload_n 3, 1), (1155, .invokestatic 149, 3), (1158, .istore 6, 2), (1160, .aload_n 2, 1), (1161, .aload_n 0, 1)]
set_option maxRecDepth 100000 in
theorem T_L_law_10 : ∀ q ∈ I_L_law_10, decode cL_law q.1 = .ok (q.2.1, q.2.2) := by decide +kernel
def I_L_law_11 : List (Nat × Instr × Nat) := [(1162, .iload 5, 2), (1164, .iconst 1, 1), (1165, .iadd, 1), (1166, .iaload, 1), (1167, .aload_n 0, 1), (1168, .iload 5, 2), (1170, .iconst 2, 1), (1171, .iadd, 1), (1172, .iaload, 1), (1173, .invokevirtual 151, 3), (1176, .istore 7, 2), (1178, .aload_n 2, 1), (1179, .invokevirtual 102, 3), (1182, .iload 6, 2), (1184, .if_icmp .eq 5, 3), (1187, .iconst 0, 1), (1188, .ireturn, 1), (1189, .iload 6, 2), (1191, .ifCond .ne 15, 3), (1194, .aload_n 3, 1), (1195, .iconst 0, 1), (1196, .laload, 1), (1197, .iload 7, 2), (1199, .i2l, 1), (1200, .lcmp, 1), (1201, .ifCond .eq 5, 3), (1204, .iconst 0, 1), (1205, .ireturn, 1), (1206, .goto 461, 3), (1209, .aload_n 1, 1), (1210, .aload_n 0, 1), (1211, .iload 5, 2), (1213, .iconst 1, 1), (1214, .iadd, 1), (1215, .iaload, 1), (1216, .aload_n 0, 1), (1217, .iload 5, 2), (1219, .iconst 2, 1), (1220, .iadd, 1), (1221, .iaload, 1), (1222, .aload_n 0, 1), (1223, .iload 5, 2), (1225, .iconst 3, 1), (1226, .iadd, 1), (1227, .iaload, 1), (1228, .aload_n 3, 1), (1229, .invokestatic 152, 3), (1232, .istore 6, 2), (1234, .aload_n 2, 1), (1235, .aload_n 0, 1), (1236, .iload 5, 2), (1238, .iconst 1, 1), (1239, .iadd, 1), (1240, .iaload, 1), (1241, .aload_n 0, 1), (1242, .iload 5, 2), (1244, .iconst 2, 1), (1245, .iadd, 1), (1246, .iaload, 1), (1247, .aload_n 0, 1), (1248, .iload 5, 2), (1250, .iconst 3, 1), (1251, .iadd, 1), (1252, .iaload, 1)]
set_option maxRecDepth 100000 in
theorem T_L_law_11 : ∀ q ∈ I_L_law_11, decode cL_law q.1 = .ok (q.2.1, q.2.2) := by decide +kernel
def I_L_law_12 : List (Nat × Instr × Nat) := [(1253, .invokevirtual 154, 3), (1256, .istore 7, 2), (1258, .aload_n 2, 1), (1259, .invokevirtual 102, 3), (1262, .iload 6, 2), (1264, .if_icmp .eq 5, 3), (1267, .iconst 0, 1), (1268, .ireturn, 1), (1269, .iload 6, 2), (1271, .ifCond .ne 15, 3), (1274, .aload_n 3, 1), (1275, .iconst 0, 1), (1276, .laload, 1), (1277, .iload 7, 2), (1279, .i2l, 1), (1280, .lcmp, 1), (1281, .ifCond .eq 5, 3), (1284, .iconst 0, 1), (1285, .ireturn, 1), (1286, .goto 381, 3), (1289, .aload_n 1, 1), (1290, .aload 4, 2), (1292, .invokestatic 155, 3), (1295, .istore 6, 2), (1297, .aload_n 2, 1), (1298, .invokevirtual 158, 3), (1301, .fstore 7, 2), (1303, .aload_n 2, 1), (1304, .invokevirtual 102, 3), (1307, .iload 6, 2), (1309, .if_icmp .eq 5, 3), (1312, .iconst 0, 1), (1313, .ireturn, 1), (1314, .iload 6, 2), (1316, .ifCond .ne 36, 3), (1319, .aload 4, 2), (1321, .iconst 0, 1), (1322, .daload, 1), (1323, .fload 7, 2), (1325, .f2d, 1), (1326, .dcmp .l, 1), (1327, .ifCond .eq 25, 3), (1330, .aload 4, 2), (1332, .iconst 0, 1), (1333, .daload, 1), (1334, .aload 4, 2), (1336, .iconst 0, 1), (1337, .daload, 1), (1338, .dcmp .l, 1), (1339, .ifCond .eq 11, 3), (1342, .fload 7, 2), (1344, .fload 7, 2), (1346, .fcmp .l, 1), (1347, .ifCond .ne 5, 3), (1350, .iconst 0, 1), (1351, .ireturn, 1), (1352, .goto 315, 3), (1355, .aload_n 1, 1), (1356, .aload_n 0, 1), (1357, .iload 5, 2), (1359, .iconst 1, 1), (1360, .iadd, 1), (1361, .iaload, 1), (1362, .aload_n 3, 1)]
set_option maxRecDepth 100000 in
theorem T_L_law_12 : ∀ q ∈ I_L_law_12, decode cL_law q.1 = .ok (q.2.1, q.2.2) := by decide +kernel
def I_L_law_13 : List (Nat × Instr × Nat) := [(1363, .invokestatic 159, 3), (1366, .istore 6, 2), (1368, .aload_n 2, 1), (1369, .aload_n 0, 1), (1370, .iload 5, 2), (1372, .iconst 1, 1), (1373, .iadd, 1), (1374, .iaload, 1), (1375, .invokevirtual 161, 3), (1378, .istore 7, 2), (1380, .aload_n 2, 1), (1381, .invokevirtual 102, 3), (1384, .iload 6, 2), (1386, .if_icmp .eq 5, 3), (1389, .iconst 0, 1), (1390, .ireturn, 1), (1391, .iload 6, 2), (1393, .ifCond .ne 15, 3), (1396, .aload_n 3, 1), (1397, .iconst 0, 1), (1398, .laload, 1), (1399, .iload 7, 2), (1401, .i2l, 1), (1402, .lcmp, 1), (1403, .ifCond .eq 5, 3), (1406, .iconst 0, 1), (1407, .ireturn, 1), (1408, .goto 259, 3), (1411, .aload_n 1, 1), (1412, .aload_n 0, 1), (1413, .iload 5, 2), (1415, .iconst 1, 1), (1416, .iadd, 1), (1417, .iaload, 1), (1418, .i2c, 1), (1419, .aload_n 3, 1), (1420, .invokestatic 162, 3), (1423, .istore 6, 2), (1425, .aload_n 2, 1), (1426, .aload_n 0, 1), (1427, .iload 5, 2), (1429, .iconst 1, 1), (1430, .iadd, 1), (1431, .iaload, 1), (1432, .i2c, 1), (1433, .invokevirtual 165, 3), (1436, .istore 7, 2), (1438, .aload_n 2, 1), (1439, .invokevirtual 102, 3), (1442, .iload 6, 2), (1444, .if_icmp .eq 5, 3), (1447, .iconst 0, 1), (1448, .ireturn, 1), (1449, .iload 6, 2), (1451, .ifCond .ne 15, 3), (1454, .aload_n 3, 1), (1455, .iconst 0, 1), (1456, .laload, 1), (1457, .iload 7, 2), (1459, .i2l, 1), (1460, .lcmp, 1), (1461, .ifCond .eq 5, 3), (1464, .iconst 0, 1), (1465, .ireturn, 1)]
set_option maxRecDepth 100000 in
theorem T_L_law_13 : ∀ q ∈ I_L_law_13, decode cL_law q.1 = .ok (q.2.1, q.2.2) := by decide +kernel
def I_L_law_14 : List (Nat × Instr × Nat) := [(1466, .goto 201, 3), (1469, .aload_n 1, 1), (1470, .invokevirtual 166, 3), (1473, .aload_n 2, 1), (1474, .invokevirtual 169, 3), (1477, .if_icmp .eq 190, 3), (1480, .iconst 0, 1), (1481, .ireturn, 1), (1482, .aload_n 1, 1), (1483, .aload_n 0, 1), (1484, .iload 5, 2), (1486, .iconst 1, 1), (1487, .iadd, 1), (1488, .iaload, 1), (1489, .aload_n 0, 1), (1490, .iload 5, 2), (1492, .iconst 2, 1), (1493, .iadd, 1), (1494, .iaload, 1), (1495, .ifCond .eq 7, 3), (1498, .iconst 1, 1), (1499, .goto 4, 3), (1502, .iconst 0, 1), (1503, .aload_n 3, 1), (1504, .invokestatic 170, 3), (1507, .istore 6, 2), (1509, .aload_n 2, 1), (1510, .aload_n 0, 1), (1511, .iload 5, 2), (1513, .iconst 1, 1), (1514, .iadd, 1), (1515, .iaload, 1), (1516, .aload_n 0, 1), (1517, .iload 5, 2), (1519, .iconst 2, 1), (1520, .iadd, 1), (1521, .iaload, 1), (1522, .ifCond .eq 7, 3), (1525, .iconst 1, 1), (1526, .goto 4, 3), (1529, .iconst 0, 1), (1530, .invokevirtual 172, 3), (1533, .istore 7, 2), (1535, .aload_n 2, 1), (1536, .invokevirtual 102, 3), (1539, .iload 6, 2), (1541, .if_icmp .eq 5, 3), (1544, .iconst 0, 1), (1545, .ireturn, 1), (1546, .iload 6, 2), (1548, .ifCond .ne 15, 3), (1551, .aload_n 3, 1), (1552, .iconst 0, 1), (1553, .laload, 1), (1554, .iload 7, 2), (1556, .i2l, 1), (1557, .lcmp, 1), (1558, .ifCond .eq 5, 3), (1561, .iconst 0, 1), (1562, .ireturn, 1), (1563, .goto 104, 3), (1566, .aload_n 1, 1), (1567, .aload_n 3, 1), (1568, .invokestatic 173, 3)]
set_option maxRecDepth 100000 in
theorem T_L_law_14 : ∀ q ∈ I_L_law_14, decode cL_law q.1 = .ok (q.2.1, q.2.2) := by decide +kernel
def I_L_law_15 : List (Nat × Instr × Nat) := [(1571, .istore 6, 2), (1573, .aload_n 2, 1), (1574, .invokevirtual 176, 3), (1577, .istore 7, 2), (1579, .aload_n 2, 1), (1580, .invokevirtual 102, 3), (1583, .iload 6, 2), (1585, .if_icmp .eq 5, 3), (1588, .iconst 0, 1), (1589, .ireturn, 1), (1590, .iload 6, 2), (1592, .ifCond .ne 15, 3), (1595, .aload_n 3, 1), (1596, .iconst 0, 1), (1597, .laload, 1), (1598, .iload 7, 2), (1600, .i2l, 1), (1601, .lcmp, 1), (1602, .ifCond .eq 5, 3), (1605, .iconst 0, 1), (1606, .ireturn, 1), (1607, .goto 60, 3), (1610, .aload_n 1, 1), (1611, .invokevirtual 177, 3), (1614, .aload_n 2, 1), (1615, .invokevirtual 180, 3), (1618, .if_icmp .eq 49, 3), (1621, .iconst 0, 1), (1622, .ireturn, 1), (1623, .aload_n 1, 1), (1624, .aload_n 3, 1), (1625, .invokestatic 181, 3), (1628, .istore 6, 2), (1630, .aload_n 2, 1), (1631, .invokevirtual 183, 3), (1634, .istore 7, 2), (1636, .aload_n 2, 1), (1637, .invokevirtual 102, 3), (1640, .iload 6, 2), (1642, .if_icmp .eq 5, 3), (1645, .iconst 0, 1), (1646, .ireturn, 1), (1647, .iload 6, 2), (1649, .ifCond .ne 15, 3), (1652, .aload_n 3, 1), (1653, .iconst 0, 1), (1654, .laload, 1), (1655, .iload 7, 2), (1657, .i2l, 1), (1658, .lcmp, 1), (1659, .ifCond .eq 5, 3), (1662, .iconst 0, 1), (1663, .ireturn, 1), (1664, .goto 3, 3), (1667, .iinc 5 6, 3), (1670, .goto (-1642), 3), (1673, .iconst 1, 1), (1674, .ireturn, 1)]
set_option maxRecDepth 100000 in
theorem T_L_law_15 : ∀ q ∈ I_L_law_15, decode cL_law q.1 = .ok (q.2.1, q.2.2) := by decide +kernel
section
variable {p : Program} {l : Launch} {e : Env} {s : State} {m : MethodId} {args : Array Value} {below : List Frame} {meth : Method} {c : Code} {Q : State → Prop} {g : Geo}
def f_L_law_j1667 (xs : Nat → Int32) (L : Nat) (x5 : Int32) (σ : St) : Option ((Int32 × St) ⊕ St) :=
  some (.inl (x5 + 6, σ))
set_option maxHeartbeats 4000000 in
set_option maxRecDepth 100000 in
theorem w_L_law_j1667 (X : Cx g RL cL_law 8 (some .boolean) p s m args meth c) (TX : TXs g (GA g s.heap.size) s s.heap) (hst : l.stackTraces = false) {b L : Nat} {xs : Nat → Int32} (hX : va_X b L xs s s.heap) (hbl : b < s.heap.size) (hbA : ¬ GA g s.heap.size b) {kc nc : Nat} (hkc : kc + 4 ≤ room_1.cells) (hnc : nc + 24 ≤ room_1.slots) (x5 : Int32) (σ : St) {w : (Int32 × St) ⊕ St} (KB : ∀ (v0_ : Int32) (v1_ : St), w = .inl (v0_, v1_) → ∀ (H : Heap) (locs : List Loc) (ls : Array Slot), Wd g s v1_ H locs → lv_has ls 8 [(0, .ref (b)), (1, .ref (g.2.2 (0))), (2, .ref (g.2.2 (101))), (3, .ref (g.2.2 (122))), (4, .ref (g.2.2 (123))), (5, .int (v0_))] → W p l e room_1 s m args below meth c H locs (kc + 4) (nc + 24) Q (F0 m 28 ls [])) (KX : ∀ (v : St), w = .inr v → ∀ (H : Heap) (locs : List Loc) (ls : Array Slot), Wd g s v H locs → lv_has ls 8 [(0, .ref (b))] → W p l e room_1 s m args below meth c H locs (kc) (nc) Q (F0 m 1673 ls [])) {H : Heap} {locs : List Loc} {ls : Array Slot} (Y : Wd g s σ H locs) (hl : lv_has ls 8 [(0, .ref (b)), (1, .ref (g.2.2 (0))), (2, .ref (g.2.2 (101))), (3, .ref (g.2.2 (122))), (4, .ref (g.2.2 (123))), (5, .int (x5))]) (h : f_L_law_j1667 xs L x5 σ = some w) : W p l e room_1 s m args below meth c H locs (kc + 4) (nc + 24) Q (F0 m 1667 ls []) := by
  unfold f_L_law_j1667 at h
  refine lv_iinc (v := x5 + 6) (lv' := [(5, .int (x5 + 6)), (0, .ref (b)), (1, .ref (g.2.2 (0))), (2, .ref (g.2.2 (101))), (3, .ref (g.2.2 (122))), (4, .ref (g.2.2 (123)))]) X.1 X.2.1 (dk T_L_law_15 54 rfl) hl (k := 5) rfl (icx ic_6) (Nat.le_of_ble_eq_true rfl) rfl (fun ls hl => ?_)
  refine lv_goto (tgt := 28) X.1 X.2.1 (dk T_L_law_15 55 rfl) rfl ?_
  refine W.widen (k := kc + 4) (n := nc + 24) (by omega) (by omega) ?_
  exact KB (x5 + 6) σ (Option.some.inj h).symm _ _ _ Y (lv_sub hl [1, 2, 3, 4, 5, 0] rfl)
def f_L_law_j233 (xs : Nat → Int32) (L : Nat) (x5 : Int32) (σ : St) : Option ((Int32 × St) ⊕ St) :=
  f_L_law_j1667 xs L x5 σ
set_option maxHeartbeats 4000000 in
set_option maxRecDepth 100000 in
theorem w_L_law_j233 (X : Cx g RL cL_law 8 (some .boolean) p s m args meth c) (TX : TXs g (GA g s.heap.size) s s.heap) (hst : l.stackTraces = false) {b L : Nat} {xs : Nat → Int32} (hX : va_X b L xs s s.heap) (hbl : b < s.heap.size) (hbA : ¬ GA g s.heap.size b) {kc nc : Nat} (hkc : kc + 4 ≤ room_1.cells) (hnc : nc + 24 ≤ room_1.slots) (x5 : Int32) (σ : St) {w : (Int32 × St) ⊕ St} (KB : ∀ (v0_ : Int32) (v1_ : St), w = .inl (v0_, v1_) → ∀ (H : Heap) (locs : List Loc) (ls : Array Slot), Wd g s v1_ H locs → lv_has ls 8 [(0, .ref (b)), (1, .ref (g.2.2 (0))), (2, .ref (g.2.2 (101))), (3, .ref (g.2.2 (122))), (4, .ref (g.2.2 (123))), (5, .int (v0_))] → W p l e room_1 s m args below meth c H locs (kc + 4) (nc + 24) Q (F0 m 28 ls [])) (KX : ∀ (v : St), w = .inr v → ∀ (H : Heap) (locs : List Loc) (ls : Array Slot), Wd g s v H locs → lv_has ls 8 [(0, .ref (b))] → W p l e room_1 s m args below meth c H locs (kc) (nc) Q (F0 m 1673 ls [])) {H : Heap} {locs : List Loc} {ls : Array Slot} (Y : Wd g s σ H locs) (hl : lv_has ls 8 [(0, .ref (b)), (1, .ref (g.2.2 (0))), (2, .ref (g.2.2 (101))), (3, .ref (g.2.2 (122))), (4, .ref (g.2.2 (123))), (5, .int (x5))]) (h : f_L_law_j233 xs L x5 σ = some w) : W p l e room_1 s m args below meth c H locs (kc + 1) (nc + 6) Q (F0 m 233 ls []) := by
  unfold f_L_law_j233 at h
  refine lv_goto (tgt := 1667) X.1 X.2.1 (dk T_L_law_1 18 rfl) rfl ?_
  refine W.widen (k := kc + 4) (n := nc + 24) (by omega) (by omega) ?_
  exact w_L_law_j1667 X TX hst hX hbl hbA hkc hnc x5 σ KB KX Y (lv_sub hl [0, 1, 2, 3, 4, 5] rfl) h
def f_L_law_j156 (xs : Nat → Int32) (L : Nat) (x5 : Int32) (σ : St) : Option ((Int32 × St) ⊕ St) :=
  chk (inb (x5 + 1) L) (chk (inb (x5 + 2) L) (chk (inb (x5 + 3) L) ((f_L_addSheet (xs (x5 + 1).toNatClampNeg) (xs (x5 + 2).toNatClampNeg) (xs (x5 + 3).toNatClampNeg) σ).bind fun q7 => chk (inb (x5 + 1) L) (chk (inb (x5 + 2) L) (chk (inb (x5 + 3) L) ((f_X11_addSheet (xs (x5 + 1).toNatClampNeg) (xs (x5 + 2).toNatClampNeg) (xs (x5 + 3).toNatClampNeg) q7.2).bind fun q11 => (f_X11_thrown q11.2).bind fun q12 => if q12 = q7.1 then if q7.1 = 0 then chk (inb 0 1) (if (lg_cmp ((q11.2 122 (0 : Int32).toNatClampNeg).toInt64) q11.1.toInt64) = 0 then f_L_law_j233 xs L x5 q11.2 else none) else f_L_law_j233 xs L x5 q11.2 else none))))))
set_option maxHeartbeats 4000000 in
set_option maxRecDepth 100000 in
theorem w_L_law_j156 (X : Cx g RL cL_law 8 (some .boolean) p s m args meth c) (TX : TXs g (GA g s.heap.size) s s.heap) (hst : l.stackTraces = false) {b L : Nat} {xs : Nat → Int32} (hX : va_X b L xs s s.heap) (hbl : b < s.heap.size) (hbA : ¬ GA g s.heap.size b) {kc nc : Nat} (hkc : kc + 4 ≤ room_1.cells) (hnc : nc + 24 ≤ room_1.slots) (x5 : Int32) (σ : St) {w : (Int32 × St) ⊕ St} (KB : ∀ (v0_ : Int32) (v1_ : St), w = .inl (v0_, v1_) → ∀ (H : Heap) (locs : List Loc) (ls : Array Slot), Wd g s v1_ H locs → lv_has ls 8 [(0, .ref (b)), (1, .ref (g.2.2 (0))), (2, .ref (g.2.2 (101))), (3, .ref (g.2.2 (122))), (4, .ref (g.2.2 (123))), (5, .int (v0_))] → W p l e room_1 s m args below meth c H locs (kc + 4) (nc + 24) Q (F0 m 28 ls [])) (KX : ∀ (v : St), w = .inr v → ∀ (H : Heap) (locs : List Loc) (ls : Array Slot), Wd g s v H locs → lv_has ls 8 [(0, .ref (b))] → W p l e room_1 s m args below meth c H locs (kc) (nc) Q (F0 m 1673 ls [])) {H : Heap} {locs : List Loc} {ls : Array Slot} (Y : Wd g s σ H locs) (hl : lv_has ls 8 [(0, .ref (b)), (1, .ref (g.2.2 (0))), (2, .ref (g.2.2 (101))), (3, .ref (g.2.2 (122))), (4, .ref (g.2.2 (123))), (5, .int (x5))]) (h : f_L_law_j156 xs L x5 σ = some w) : W p l e room_1 s m args below meth c H locs (kc) (nc) Q (F0 m 156 ls []) := by
  unfold f_L_law_j156 at h
  refine lv_aload_n X.1 X.2.1 (dk T_L_law_0 28 rfl) rfl (lv_at hl 1 rfl) ?_
  refine lv_aload_n X.1 X.2.1 (dk T_L_law_0 29 rfl) rfl (lv_at hl 0 rfl) ?_
  refine lv_iload X.1 X.2.1 (dk T_L_law_0 30 rfl) (lv_at hl 5 rfl) ?_
  refine lv_iconst (v := 1) X.1 X.2.1 (dk T_L_law_0 31 rfl) ic_1 ?_
  refine lv_iadd X.1 X.2.1 (dk T_L_law_0 32 rfl) ?_
  obtain ⟨g4, h⟩ := gd h
  refine va_sld X.1 X.2.1 hX hbl hbA Y.2 (inp g4) (dk T_L_law_0 33 rfl) ?_
  refine lv_aload_n X.1 X.2.1 (dk T_L_law_0 34 rfl) rfl (lv_at hl 0 rfl) ?_
  refine lv_iload X.1 X.2.1 (dk T_L_law_0 35 rfl) (lv_at hl 5 rfl) ?_
  refine lv_iconst (v := 2) X.1 X.2.1 (dk T_L_law_0 36 rfl) ic_2 ?_
  refine lv_iadd X.1 X.2.1 (dk T_L_law_0 37 rfl) ?_
  obtain ⟨g5, h⟩ := gd h
  refine va_sld X.1 X.2.1 hX hbl hbA Y.2 (inp g5) (dk T_L_law_0 38 rfl) ?_
  refine lv_aload_n X.1 X.2.1 (dk T_L_law_0 39 rfl) rfl (lv_at hl 0 rfl) ?_
  refine lv_iload X.1 X.2.1 (dk T_L_law_0 40 rfl) (lv_at hl 5 rfl) ?_
  refine lv_iconst (v := 3) X.1 X.2.1 (dk T_L_law_0 41 rfl) ic_3 ?_
  refine lv_iadd X.1 X.2.1 (dk T_L_law_0 42 rfl) ?_
  obtain ⟨g6, h⟩ := gd h
  refine va_sld X.1 X.2.1 hX hbl hbA Y.2 (inp g6) (dk T_L_law_0 43 rfl) ?_
  refine lv_aload_n X.1 X.2.1 (dk T_L_law_0 44 rfl) rfl (lv_at hl 3 rfl) ?_
  obtain ⟨q7, hq7, h⟩ := bs h
  refine gsH (rest := []) X TX hst Y (c_L_addSheet (xs (x5 + 1).toNatClampNeg) (xs (x5 + 2).toNatClampNeg) (xs (x5 + 3).toNatClampNeg) σ hq7) cb_L_96 hl.1 rfl rfl (Nat.le_of_ble_eq_true rfl) ⟨(Nat.le_of_ble_eq_true rfl), (Nat.le_of_ble_eq_true rfl)⟩ ⟨law_le hkc (by decide), law_le hnc (by decide)⟩ (dk T_L_law_0 45 rfl) (fun H locs Y => ?_)
  refine lv_istore (lv' := [(6, .int (q7.1)), (0, .ref (b)), (1, .ref (g.2.2 (0))), (2, .ref (g.2.2 (101))), (3, .ref (g.2.2 (122))), (4, .ref (g.2.2 (123))), (5, .int (x5))]) X.1 X.2.1 (dk T_L_law_0 46 rfl) hl (Nat.le_of_ble_eq_true rfl) rfl (fun ls hl => ?_)
  refine lv_aload_n X.1 X.2.1 (dk T_L_law_0 47 rfl) rfl (lv_at hl 3 rfl) ?_
  refine lv_aload_n X.1 X.2.1 (dk T_L_law_0 48 rfl) rfl (lv_at hl 1 rfl) ?_
  refine lv_iload X.1 X.2.1 (dk T_L_law_0 49 rfl) (lv_at hl 6 rfl) ?_
  refine lv_iconst (v := 1) X.1 X.2.1 (dk T_L_law_0 50 rfl) ic_1 ?_
  refine lv_iadd X.1 X.2.1 (dk T_L_law_0 51 rfl) ?_
  obtain ⟨g8, h⟩ := gd h
  refine va_sld X.1 X.2.1 hX hbl hbA Y.2 (inp g8) (dk T_L_law_0 52 rfl) ?_
  refine lv_aload_n X.1 X.2.1 (dk T_L_law_0 53 rfl) rfl (lv_at hl 1 rfl) ?_
  refine lv_iload X.1 X.2.1 (dk T_L_law_0 54 rfl) (lv_at hl 6 rfl) ?_
  refine lv_iconst (v := 2) X.1 X.2.1 (dk T_L_law_0 55 rfl) ic_2 ?_
  refine lv_iadd X.1 X.2.1 (dk T_L_law_0 56 rfl) ?_
  obtain ⟨g9, h⟩ := gd h
  refine va_sld X.1 X.2.1 hX hbl hbA Y.2 (inp g9) (dk T_L_law_0 57 rfl) ?_
  refine lv_aload_n X.1 X.2.1 (dk T_L_law_0 58 rfl) rfl (lv_at hl 1 rfl) ?_
  refine lv_iload X.1 X.2.1 (dk T_L_law_0 59 rfl) (lv_at hl 6 rfl) ?_
  refine lv_iconst (v := 3) X.1 X.2.1 (dk T_L_law_0 60 rfl) ic_3 ?_
  refine lv_iadd X.1 X.2.1 (dk T_L_law_0 61 rfl) ?_
  obtain ⟨g10, h⟩ := gd h
  refine va_sld X.1 X.2.1 hX hbl hbA Y.2 (inp g10) (dk T_L_law_0 62 rfl) ?_
  obtain ⟨q11, hq11, h⟩ := bs h
  refine gvIx (rest := []) X Y (c_X11_addSheet (xs (x5 + 1).toNatClampNeg) (xs (x5 + 2).toNatClampNeg) (xs (x5 + 3).toNatClampNeg) q7.2 hq11) cb_L_101 rfl hl.1 rfl rfl (Nat.le_of_ble_eq_true rfl) ⟨(Nat.le_of_ble_eq_true rfl), (Nat.le_of_ble_eq_true rfl)⟩ ⟨law_le hkc (by decide), law_le hnc (by decide)⟩ (dk T_L_law_0 63 rfl) (fun H locs Y => ?_)
  refine lv_istore (lv' := [(7, .int (q11.1)), (6, .int (q7.1)), (0, .ref (b)), (1, .ref (g.2.2 (0))), (2, .ref (g.2.2 (101))), (3, .ref (g.2.2 (122))), (4, .ref (g.2.2 (123))), (5, .int (x5))]) X.1 X.2.1 (dk T_L_law_1 0 rfl) hl (Nat.le_of_ble_eq_true rfl) rfl (fun ls hl => ?_)
  refine lv_aload_n X.1 X.2.1 (dk T_L_law_1 1 rfl) rfl (lv_at hl 4 rfl) ?_
  obtain ⟨q12, hq12, h⟩ := bs h
  refine gvIx (rest := []) X Y (c_X11_thrown q11.2 hq12) cb_L_102 rfl hl.1 rfl rfl (Nat.le_of_ble_eq_true rfl) ⟨(Nat.le_of_ble_eq_true rfl), (Nat.le_of_ble_eq_true rfl)⟩ ⟨law_le hkc (by decide), law_le hnc (by decide)⟩ (dk T_L_law_1 2 rfl) (fun H locs Y => ?_)
  refine lv_iload X.1 X.2.1 (dk T_L_law_1 3 rfl) (lv_at hl 1 rfl) ?_
  refine lv_icmp_eq (tgt := 216) X.1 X.2.1 (dk T_L_law_1 4 rfl) rfl (fun c13 => ?_) (fun c13 => ?_)
  · replace h := ipos c13 h
    refine lv_iload X.1 X.2.1 (dk T_L_law_1 7 rfl) (lv_at hl 1 rfl) ?_
    refine lv_if_ne (tgt := 233) X.1 X.2.1 (dk T_L_law_1 8 rfl) rfl (fun c14 => ?_) (fun c14 => ?_)
    · replace h := ineg c14 h
      exact w_L_law_j233 X TX hst hX hbl hbA hkc hnc x5 q11.2 KB KX Y (lv_sub hl [2, 3, 4, 5, 6, 7] rfl) h
    · replace h := ipos c14 h
      refine lv_aload_n X.1 X.2.1 (dk T_L_law_1 9 rfl) rfl (lv_at hl 5 rfl) ?_
      refine lv_iconst (v := 0) X.1 X.2.1 (dk T_L_law_1 10 rfl) ic_0 ?_
      obtain ⟨g15, h⟩ := gd h
      refine gll X Y rfl (inp g15) (dk T_L_law_1 11 rfl) ?_
      refine lv_iload X.1 X.2.1 (dk T_L_law_1 12 rfl) (lv_at hl 0 rfl) ?_
      refine lv_i2l X.1 X.2.1 (dk T_L_law_1 13 rfl) rfl ?_
      refine W.lcmp X.1 X.2.1 (dk T_L_law_1 14 rfl) ?_
      refine lv_if_eq (tgt := 233) X.1 X.2.1 (dk T_L_law_1 15 rfl) rfl (fun c16 => ?_) (fun c16 => ?_)
      · replace h := ipos c16 h
        exact w_L_law_j233 X TX hst hX hbl hbA hkc hnc x5 q11.2 KB KX Y (lv_sub hl [2, 3, 4, 5, 6, 7] rfl) h
      · replace h := ineg c16 h
        cases h
  · replace h := ineg c13 h
    cases h
def f_L_law_j337 (xs : Nat → Int32) (L : Nat) (x5 : Int32) (σ : St) : Option ((Int32 × St) ⊕ St) :=
  f_L_law_j1667 xs L x5 σ
set_option maxHeartbeats 4000000 in
set_option maxRecDepth 100000 in
theorem w_L_law_j337 (X : Cx g RL cL_law 8 (some .boolean) p s m args meth c) (TX : TXs g (GA g s.heap.size) s s.heap) (hst : l.stackTraces = false) {b L : Nat} {xs : Nat → Int32} (hX : va_X b L xs s s.heap) (hbl : b < s.heap.size) (hbA : ¬ GA g s.heap.size b) {kc nc : Nat} (hkc : kc + 4 ≤ room_1.cells) (hnc : nc + 24 ≤ room_1.slots) (x5 : Int32) (σ : St) {w : (Int32 × St) ⊕ St} (KB : ∀ (v0_ : Int32) (v1_ : St), w = .inl (v0_, v1_) → ∀ (H : Heap) (locs : List Loc) (ls : Array Slot), Wd g s v1_ H locs → lv_has ls 8 [(0, .ref (b)), (1, .ref (g.2.2 (0))), (2, .ref (g.2.2 (101))), (3, .ref (g.2.2 (122))), (4, .ref (g.2.2 (123))), (5, .int (v0_))] → W p l e room_1 s m args below meth c H locs (kc + 4) (nc + 24) Q (F0 m 28 ls [])) (KX : ∀ (v : St), w = .inr v → ∀ (H : Heap) (locs : List Loc) (ls : Array Slot), Wd g s v H locs → lv_has ls 8 [(0, .ref (b))] → W p l e room_1 s m args below meth c H locs (kc) (nc) Q (F0 m 1673 ls [])) {H : Heap} {locs : List Loc} {ls : Array Slot} (Y : Wd g s σ H locs) (hl : lv_has ls 8 [(0, .ref (b)), (1, .ref (g.2.2 (0))), (2, .ref (g.2.2 (101))), (3, .ref (g.2.2 (122))), (4, .ref (g.2.2 (123))), (5, .int (x5))]) (h : f_L_law_j337 xs L x5 σ = some w) : W p l e room_1 s m args below meth c H locs (kc + 1) (nc + 6) Q (F0 m 337 ls []) := by
  unfold f_L_law_j337 at h
  refine lv_goto (tgt := 1667) X.1 X.2.1 (dk T_L_law_2 29 rfl) rfl ?_
  refine W.widen (k := kc + 4) (n := nc + 24) (by omega) (by omega) ?_
  exact w_L_law_j1667 X TX hst hX hbl hbA hkc hnc x5 σ KB KX Y (lv_sub hl [0, 1, 2, 3, 4, 5] rfl) h
def f_L_law_j236 (xs : Nat → Int32) (L : Nat) (x5 : Int32) (σ : St) : Option ((Int32 × St) ⊕ St) :=
  chk (inb (x5 + 1) L) (chk (inb (x5 + 2) L) (chk (inb (x5 + 3) L) (chk (inb (x5 + 4) L) (chk (inb (x5 + 5) L) ((f_L_addShape (xs (x5 + 1).toNatClampNeg) (xs (x5 + 2).toNatClampNeg) (xs (x5 + 3).toNatClampNeg) (xs (x5 + 4).toNatClampNeg) (xs (x5 + 5).toNatClampNeg) σ).bind fun q23 => chk (inb (x5 + 1) L) (chk (inb (x5 + 2) L) (chk (inb (x5 + 3) L) (chk (inb (x5 + 4) L) (chk (inb (x5 + 5) L) ((f_X11_addShape (xs (x5 + 1).toNatClampNeg) (xs (x5 + 2).toNatClampNeg) (xs (x5 + 3).toNatClampNeg) (xs (x5 + 4).toNatClampNeg) (xs (x5 + 5).toNatClampNeg) q23.2).bind fun q29 => (f_X11_thrown q29.2).bind fun q30 => if q30 = q23.1 then if q23.1 = 0 then chk (inb 0 1) (if (lg_cmp ((q29.2 122 (0 : Int32).toNatClampNeg).toInt64) q29.1.toInt64) = 0 then f_L_law_j337 xs L x5 q29.2 else none) else f_L_law_j337 xs L x5 q29.2 else none))))))))))
set_option maxHeartbeats 4000000 in
set_option maxRecDepth 100000 in
theorem w_L_law_j236 (X : Cx g RL cL_law 8 (some .boolean) p s m args meth c) (TX : TXs g (GA g s.heap.size) s s.heap) (hst : l.stackTraces = false) {b L : Nat} {xs : Nat → Int32} (hX : va_X b L xs s s.heap) (hbl : b < s.heap.size) (hbA : ¬ GA g s.heap.size b) {kc nc : Nat} (hkc : kc + 4 ≤ room_1.cells) (hnc : nc + 24 ≤ room_1.slots) (x5 : Int32) (σ : St) {w : (Int32 × St) ⊕ St} (KB : ∀ (v0_ : Int32) (v1_ : St), w = .inl (v0_, v1_) → ∀ (H : Heap) (locs : List Loc) (ls : Array Slot), Wd g s v1_ H locs → lv_has ls 8 [(0, .ref (b)), (1, .ref (g.2.2 (0))), (2, .ref (g.2.2 (101))), (3, .ref (g.2.2 (122))), (4, .ref (g.2.2 (123))), (5, .int (v0_))] → W p l e room_1 s m args below meth c H locs (kc + 4) (nc + 24) Q (F0 m 28 ls [])) (KX : ∀ (v : St), w = .inr v → ∀ (H : Heap) (locs : List Loc) (ls : Array Slot), Wd g s v H locs → lv_has ls 8 [(0, .ref (b))] → W p l e room_1 s m args below meth c H locs (kc) (nc) Q (F0 m 1673 ls [])) {H : Heap} {locs : List Loc} {ls : Array Slot} (Y : Wd g s σ H locs) (hl : lv_has ls 8 [(0, .ref (b)), (1, .ref (g.2.2 (0))), (2, .ref (g.2.2 (101))), (3, .ref (g.2.2 (122))), (4, .ref (g.2.2 (123))), (5, .int (x5))]) (h : f_L_law_j236 xs L x5 σ = some w) : W p l e room_1 s m args below meth c H locs (kc) (nc) Q (F0 m 236 ls []) := by
  unfold f_L_law_j236 at h
  refine lv_aload_n X.1 X.2.1 (dk T_L_law_1 19 rfl) rfl (lv_at hl 1 rfl) ?_
  refine lv_aload_n X.1 X.2.1 (dk T_L_law_1 20 rfl) rfl (lv_at hl 0 rfl) ?_
  refine lv_iload X.1 X.2.1 (dk T_L_law_1 21 rfl) (lv_at hl 5 rfl) ?_
  refine lv_iconst (v := 1) X.1 X.2.1 (dk T_L_law_1 22 rfl) ic_1 ?_
  refine lv_iadd X.1 X.2.1 (dk T_L_law_1 23 rfl) ?_
  obtain ⟨g18, h⟩ := gd h
  refine va_sld X.1 X.2.1 hX hbl hbA Y.2 (inp g18) (dk T_L_law_1 24 rfl) ?_
  refine lv_aload_n X.1 X.2.1 (dk T_L_law_1 25 rfl) rfl (lv_at hl 0 rfl) ?_
  refine lv_iload X.1 X.2.1 (dk T_L_law_1 26 rfl) (lv_at hl 5 rfl) ?_
  refine lv_iconst (v := 2) X.1 X.2.1 (dk T_L_law_1 27 rfl) ic_2 ?_
  refine lv_iadd X.1 X.2.1 (dk T_L_law_1 28 rfl) ?_
  obtain ⟨g19, h⟩ := gd h
  refine va_sld X.1 X.2.1 hX hbl hbA Y.2 (inp g19) (dk T_L_law_1 29 rfl) ?_
  refine lv_aload_n X.1 X.2.1 (dk T_L_law_1 30 rfl) rfl (lv_at hl 0 rfl) ?_
  refine lv_iload X.1 X.2.1 (dk T_L_law_1 31 rfl) (lv_at hl 5 rfl) ?_
  refine lv_iconst (v := 3) X.1 X.2.1 (dk T_L_law_1 32 rfl) ic_3 ?_
  refine lv_iadd X.1 X.2.1 (dk T_L_law_1 33 rfl) ?_
  obtain ⟨g20, h⟩ := gd h
  refine va_sld X.1 X.2.1 hX hbl hbA Y.2 (inp g20) (dk T_L_law_1 34 rfl) ?_
  refine lv_aload_n X.1 X.2.1 (dk T_L_law_1 35 rfl) rfl (lv_at hl 0 rfl) ?_
  refine lv_iload X.1 X.2.1 (dk T_L_law_1 36 rfl) (lv_at hl 5 rfl) ?_
  refine lv_iconst (v := 4) X.1 X.2.1 (dk T_L_law_1 37 rfl) ic_4 ?_
  refine lv_iadd X.1 X.2.1 (dk T_L_law_1 38 rfl) ?_
  obtain ⟨g21, h⟩ := gd h
  refine va_sld X.1 X.2.1 hX hbl hbA Y.2 (inp g21) (dk T_L_law_1 39 rfl) ?_
  refine lv_aload_n X.1 X.2.1 (dk T_L_law_1 40 rfl) rfl (lv_at hl 0 rfl) ?_
  refine lv_iload X.1 X.2.1 (dk T_L_law_1 41 rfl) (lv_at hl 5 rfl) ?_
  refine lv_iconst (v := 5) X.1 X.2.1 (dk T_L_law_1 42 rfl) ic_5 ?_
  refine lv_iadd X.1 X.2.1 (dk T_L_law_1 43 rfl) ?_
  obtain ⟨g22, h⟩ := gd h
  refine va_sld X.1 X.2.1 hX hbl hbA Y.2 (inp g22) (dk T_L_law_1 44 rfl) ?_
  refine lv_aload_n X.1 X.2.1 (dk T_L_law_1 45 rfl) rfl (lv_at hl 3 rfl) ?_
  obtain ⟨q23, hq23, h⟩ := bs h
  refine gsH (rest := []) X TX hst Y (c_L_addShape (xs (x5 + 1).toNatClampNeg) (xs (x5 + 2).toNatClampNeg) (xs (x5 + 3).toNatClampNeg) (xs (x5 + 4).toNatClampNeg) (xs (x5 + 5).toNatClampNeg) σ hq23) cb_L_105 hl.1 rfl rfl (Nat.le_of_ble_eq_true rfl) ⟨(Nat.le_of_ble_eq_true rfl), (Nat.le_of_ble_eq_true rfl)⟩ ⟨law_le hkc (by decide), law_le hnc (by decide)⟩ (dk T_L_law_1 46 rfl) (fun H locs Y => ?_)
  refine lv_istore (lv' := [(6, .int (q23.1)), (0, .ref (b)), (1, .ref (g.2.2 (0))), (2, .ref (g.2.2 (101))), (3, .ref (g.2.2 (122))), (4, .ref (g.2.2 (123))), (5, .int (x5))]) X.1 X.2.1 (dk T_L_law_1 47 rfl) hl (Nat.le_of_ble_eq_true rfl) rfl (fun ls hl => ?_)
  refine lv_aload_n X.1 X.2.1 (dk T_L_law_1 48 rfl) rfl (lv_at hl 3 rfl) ?_
  refine lv_aload_n X.1 X.2.1 (dk T_L_law_1 49 rfl) rfl (lv_at hl 1 rfl) ?_
  refine lv_iload X.1 X.2.1 (dk T_L_law_1 50 rfl) (lv_at hl 6 rfl) ?_
  refine lv_iconst (v := 1) X.1 X.2.1 (dk T_L_law_1 51 rfl) ic_1 ?_
  refine lv_iadd X.1 X.2.1 (dk T_L_law_1 52 rfl) ?_
  obtain ⟨g24, h⟩ := gd h
  refine va_sld X.1 X.2.1 hX hbl hbA Y.2 (inp g24) (dk T_L_law_1 53 rfl) ?_
  refine lv_aload_n X.1 X.2.1 (dk T_L_law_1 54 rfl) rfl (lv_at hl 1 rfl) ?_
  refine lv_iload X.1 X.2.1 (dk T_L_law_1 55 rfl) (lv_at hl 6 rfl) ?_
  refine lv_iconst (v := 2) X.1 X.2.1 (dk T_L_law_1 56 rfl) ic_2 ?_
  refine lv_iadd X.1 X.2.1 (dk T_L_law_1 57 rfl) ?_
  obtain ⟨g25, h⟩ := gd h
  refine va_sld X.1 X.2.1 hX hbl hbA Y.2 (inp g25) (dk T_L_law_1 58 rfl) ?_
  refine lv_aload_n X.1 X.2.1 (dk T_L_law_1 59 rfl) rfl (lv_at hl 1 rfl) ?_
  refine lv_iload X.1 X.2.1 (dk T_L_law_1 60 rfl) (lv_at hl 6 rfl) ?_
  refine lv_iconst (v := 3) X.1 X.2.1 (dk T_L_law_1 61 rfl) ic_3 ?_
  refine lv_iadd X.1 X.2.1 (dk T_L_law_1 62 rfl) ?_
  obtain ⟨g26, h⟩ := gd h
  refine va_sld X.1 X.2.1 hX hbl hbA Y.2 (inp g26) (dk T_L_law_1 63 rfl) ?_
  refine lv_aload_n X.1 X.2.1 (dk T_L_law_2 0 rfl) rfl (lv_at hl 1 rfl) ?_
  refine lv_iload X.1 X.2.1 (dk T_L_law_2 1 rfl) (lv_at hl 6 rfl) ?_
  refine lv_iconst (v := 4) X.1 X.2.1 (dk T_L_law_2 2 rfl) ic_4 ?_
  refine lv_iadd X.1 X.2.1 (dk T_L_law_2 3 rfl) ?_
  obtain ⟨g27, h⟩ := gd h
  refine va_sld X.1 X.2.1 hX hbl hbA Y.2 (inp g27) (dk T_L_law_2 4 rfl) ?_
  refine lv_aload_n X.1 X.2.1 (dk T_L_law_2 5 rfl) rfl (lv_at hl 1 rfl) ?_
  refine lv_iload X.1 X.2.1 (dk T_L_law_2 6 rfl) (lv_at hl 6 rfl) ?_
  refine lv_iconst (v := 5) X.1 X.2.1 (dk T_L_law_2 7 rfl) ic_5 ?_
  refine lv_iadd X.1 X.2.1 (dk T_L_law_2 8 rfl) ?_
  obtain ⟨g28, h⟩ := gd h
  refine va_sld X.1 X.2.1 hX hbl hbA Y.2 (inp g28) (dk T_L_law_2 9 rfl) ?_
  obtain ⟨q29, hq29, h⟩ := bs h
  refine gvIx (rest := []) X Y (c_X11_addShape (xs (x5 + 1).toNatClampNeg) (xs (x5 + 2).toNatClampNeg) (xs (x5 + 3).toNatClampNeg) (xs (x5 + 4).toNatClampNeg) (xs (x5 + 5).toNatClampNeg) q23.2 hq29) cb_L_108 rfl hl.1 rfl rfl (Nat.le_of_ble_eq_true rfl) ⟨(Nat.le_of_ble_eq_true rfl), (Nat.le_of_ble_eq_true rfl)⟩ ⟨law_le hkc (by decide), law_le hnc (by decide)⟩ (dk T_L_law_2 10 rfl) (fun H locs Y => ?_)
  refine lv_istore (lv' := [(7, .int (q29.1)), (6, .int (q23.1)), (0, .ref (b)), (1, .ref (g.2.2 (0))), (2, .ref (g.2.2 (101))), (3, .ref (g.2.2 (122))), (4, .ref (g.2.2 (123))), (5, .int (x5))]) X.1 X.2.1 (dk T_L_law_2 11 rfl) hl (Nat.le_of_ble_eq_true rfl) rfl (fun ls hl => ?_)
  refine lv_aload_n X.1 X.2.1 (dk T_L_law_2 12 rfl) rfl (lv_at hl 4 rfl) ?_
  obtain ⟨q30, hq30, h⟩ := bs h
  refine gvIx (rest := []) X Y (c_X11_thrown q29.2 hq30) cb_L_102 rfl hl.1 rfl rfl (Nat.le_of_ble_eq_true rfl) ⟨(Nat.le_of_ble_eq_true rfl), (Nat.le_of_ble_eq_true rfl)⟩ ⟨law_le hkc (by decide), law_le hnc (by decide)⟩ (dk T_L_law_2 13 rfl) (fun H locs Y => ?_)
  refine lv_iload X.1 X.2.1 (dk T_L_law_2 14 rfl) (lv_at hl 1 rfl) ?_
  refine lv_icmp_eq (tgt := 320) X.1 X.2.1 (dk T_L_law_2 15 rfl) rfl (fun c31 => ?_) (fun c31 => ?_)
  · replace h := ipos c31 h
    refine lv_iload X.1 X.2.1 (dk T_L_law_2 18 rfl) (lv_at hl 1 rfl) ?_
    refine lv_if_ne (tgt := 337) X.1 X.2.1 (dk T_L_law_2 19 rfl) rfl (fun c32 => ?_) (fun c32 => ?_)
    · replace h := ineg c32 h
      exact w_L_law_j337 X TX hst hX hbl hbA hkc hnc x5 q29.2 KB KX Y (lv_sub hl [2, 3, 4, 5, 6, 7] rfl) h
    · replace h := ipos c32 h
      refine lv_aload_n X.1 X.2.1 (dk T_L_law_2 20 rfl) rfl (lv_at hl 5 rfl) ?_
      refine lv_iconst (v := 0) X.1 X.2.1 (dk T_L_law_2 21 rfl) ic_0 ?_
      obtain ⟨g33, h⟩ := gd h
      refine gll X Y rfl (inp g33) (dk T_L_law_2 22 rfl) ?_
      refine lv_iload X.1 X.2.1 (dk T_L_law_2 23 rfl) (lv_at hl 0 rfl) ?_
      refine lv_i2l X.1 X.2.1 (dk T_L_law_2 24 rfl) rfl ?_
      refine W.lcmp X.1 X.2.1 (dk T_L_law_2 25 rfl) ?_
      refine lv_if_eq (tgt := 337) X.1 X.2.1 (dk T_L_law_2 26 rfl) rfl (fun c34 => ?_) (fun c34 => ?_)
      · replace h := ipos c34 h
        exact w_L_law_j337 X TX hst hX hbl hbA hkc hnc x5 q29.2 KB KX Y (lv_sub hl [2, 3, 4, 5, 6, 7] rfl) h
      · replace h := ineg c34 h
        cases h
  · replace h := ineg c31 h
    cases h
def f_L_law_j405 (xs : Nat → Int32) (L : Nat) (x5 : Int32) (σ : St) : Option ((Int32 × St) ⊕ St) :=
  f_L_law_j1667 xs L x5 σ
set_option maxHeartbeats 4000000 in
set_option maxRecDepth 100000 in
theorem w_L_law_j405 (X : Cx g RL cL_law 8 (some .boolean) p s m args meth c) (TX : TXs g (GA g s.heap.size) s s.heap) (hst : l.stackTraces = false) {b L : Nat} {xs : Nat → Int32} (hX : va_X b L xs s s.heap) (hbl : b < s.heap.size) (hbA : ¬ GA g s.heap.size b) {kc nc : Nat} (hkc : kc + 4 ≤ room_1.cells) (hnc : nc + 24 ≤ room_1.slots) (x5 : Int32) (σ : St) {w : (Int32 × St) ⊕ St} (KB : ∀ (v0_ : Int32) (v1_ : St), w = .inl (v0_, v1_) → ∀ (H : Heap) (locs : List Loc) (ls : Array Slot), Wd g s v1_ H locs → lv_has ls 8 [(0, .ref (b)), (1, .ref (g.2.2 (0))), (2, .ref (g.2.2 (101))), (3, .ref (g.2.2 (122))), (4, .ref (g.2.2 (123))), (5, .int (v0_))] → W p l e room_1 s m args below meth c H locs (kc + 4) (nc + 24) Q (F0 m 28 ls [])) (KX : ∀ (v : St), w = .inr v → ∀ (H : Heap) (locs : List Loc) (ls : Array Slot), Wd g s v H locs → lv_has ls 8 [(0, .ref (b))] → W p l e room_1 s m args below meth c H locs (kc) (nc) Q (F0 m 1673 ls [])) {H : Heap} {locs : List Loc} {ls : Array Slot} (Y : Wd g s σ H locs) (hl : lv_has ls 8 [(0, .ref (b)), (1, .ref (g.2.2 (0))), (2, .ref (g.2.2 (101))), (3, .ref (g.2.2 (122))), (4, .ref (g.2.2 (123))), (5, .int (x5))]) (h : f_L_law_j405 xs L x5 σ = some w) : W p l e room_1 s m args below meth c H locs (kc + 3) (nc + 18) Q (F0 m 405 ls []) := by
  unfold f_L_law_j405 at h
  refine lv_goto (tgt := 1667) X.1 X.2.1 (dk T_L_law_3 10 rfl) rfl ?_
  refine W.widen (k := kc + 4) (n := nc + 24) (by omega) (by omega) ?_
  exact w_L_law_j1667 X TX hst hX hbl hbA hkc hnc x5 σ KB KX Y (lv_sub hl [0, 1, 2, 3, 4, 5] rfl) h
def f_L_law_j340 (xs : Nat → Int32) (L : Nat) (x5 : Int32) (σ : St) : Option ((Int32 × St) ⊕ St) :=
  chk (inb (x5 + 1) L) (chk (inb (x5 + 2) L) ((f_L_spoil (xs (x5 + 1).toNatClampNeg) (xs (x5 + 2).toNatClampNeg) σ).bind fun q38 => chk (inb (x5 + 1) L) (chk (inb (x5 + 2) L) ((f_X11_spoil (xs (x5 + 1).toNatClampNeg) (xs (x5 + 2).toNatClampNeg) q38.2).bind fun q41 => (f_X11_thrown q41.2).bind fun q42 => if q42 = q38.1 then if q38.1 = 0 then chk (inb 0 1) (if (lg_cmp ((q41.2 122 (0 : Int32).toNatClampNeg).toInt64) q41.1.toInt64) = 0 then f_L_law_j405 xs L x5 q41.2 else none) else f_L_law_j405 xs L x5 q41.2 else none))))
set_option maxHeartbeats 4000000 in
set_option maxRecDepth 100000 in
theorem w_L_law_j340 (X : Cx g RL cL_law 8 (some .boolean) p s m args meth c) (TX : TXs g (GA g s.heap.size) s s.heap) (hst : l.stackTraces = false) {b L : Nat} {xs : Nat → Int32} (hX : va_X b L xs s s.heap) (hbl : b < s.heap.size) (hbA : ¬ GA g s.heap.size b) {kc nc : Nat} (hkc : kc + 4 ≤ room_1.cells) (hnc : nc + 24 ≤ room_1.slots) (x5 : Int32) (σ : St) {w : (Int32 × St) ⊕ St} (KB : ∀ (v0_ : Int32) (v1_ : St), w = .inl (v0_, v1_) → ∀ (H : Heap) (locs : List Loc) (ls : Array Slot), Wd g s v1_ H locs → lv_has ls 8 [(0, .ref (b)), (1, .ref (g.2.2 (0))), (2, .ref (g.2.2 (101))), (3, .ref (g.2.2 (122))), (4, .ref (g.2.2 (123))), (5, .int (v0_))] → W p l e room_1 s m args below meth c H locs (kc + 4) (nc + 24) Q (F0 m 28 ls [])) (KX : ∀ (v : St), w = .inr v → ∀ (H : Heap) (locs : List Loc) (ls : Array Slot), Wd g s v H locs → lv_has ls 8 [(0, .ref (b))] → W p l e room_1 s m args below meth c H locs (kc) (nc) Q (F0 m 1673 ls [])) {H : Heap} {locs : List Loc} {ls : Array Slot} (Y : Wd g s σ H locs) (hl : lv_has ls 8 [(0, .ref (b)), (1, .ref (g.2.2 (0))), (2, .ref (g.2.2 (101))), (3, .ref (g.2.2 (122))), (4, .ref (g.2.2 (123))), (5, .int (x5))]) (h : f_L_law_j340 xs L x5 σ = some w) : W p l e room_1 s m args below meth c H locs (kc) (nc) Q (F0 m 340 ls []) := by
  unfold f_L_law_j340 at h
  refine lv_aload_n X.1 X.2.1 (dk T_L_law_2 30 rfl) rfl (lv_at hl 1 rfl) ?_
  refine lv_aload_n X.1 X.2.1 (dk T_L_law_2 31 rfl) rfl (lv_at hl 0 rfl) ?_
  refine lv_iload X.1 X.2.1 (dk T_L_law_2 32 rfl) (lv_at hl 5 rfl) ?_
  refine lv_iconst (v := 1) X.1 X.2.1 (dk T_L_law_2 33 rfl) ic_1 ?_
  refine lv_iadd X.1 X.2.1 (dk T_L_law_2 34 rfl) ?_
  obtain ⟨g36, h⟩ := gd h
  refine va_sld X.1 X.2.1 hX hbl hbA Y.2 (inp g36) (dk T_L_law_2 35 rfl) ?_
  refine lv_aload_n X.1 X.2.1 (dk T_L_law_2 36 rfl) rfl (lv_at hl 0 rfl) ?_
  refine lv_iload X.1 X.2.1 (dk T_L_law_2 37 rfl) (lv_at hl 5 rfl) ?_
  refine lv_iconst (v := 2) X.1 X.2.1 (dk T_L_law_2 38 rfl) ic_2 ?_
  refine lv_iadd X.1 X.2.1 (dk T_L_law_2 39 rfl) ?_
  obtain ⟨g37, h⟩ := gd h
  refine va_sld X.1 X.2.1 hX hbl hbA Y.2 (inp g37) (dk T_L_law_2 40 rfl) ?_
  refine lv_aload_n X.1 X.2.1 (dk T_L_law_2 41 rfl) rfl (lv_at hl 3 rfl) ?_
  obtain ⟨q38, hq38, h⟩ := bs h
  refine gsH (rest := []) X TX hst Y (c_L_spoil (xs (x5 + 1).toNatClampNeg) (xs (x5 + 2).toNatClampNeg) σ hq38) cb_L_109 hl.1 rfl rfl (Nat.le_of_ble_eq_true rfl) ⟨(Nat.le_of_ble_eq_true rfl), (Nat.le_of_ble_eq_true rfl)⟩ ⟨law_le hkc (by decide), law_le hnc (by decide)⟩ (dk T_L_law_2 42 rfl) (fun H locs Y => ?_)
  refine lv_istore (lv' := [(6, .int (q38.1)), (0, .ref (b)), (1, .ref (g.2.2 (0))), (2, .ref (g.2.2 (101))), (3, .ref (g.2.2 (122))), (4, .ref (g.2.2 (123))), (5, .int (x5))]) X.1 X.2.1 (dk T_L_law_2 43 rfl) hl (Nat.le_of_ble_eq_true rfl) rfl (fun ls hl => ?_)
  refine lv_aload_n X.1 X.2.1 (dk T_L_law_2 44 rfl) rfl (lv_at hl 3 rfl) ?_
  refine lv_aload_n X.1 X.2.1 (dk T_L_law_2 45 rfl) rfl (lv_at hl 1 rfl) ?_
  refine lv_iload X.1 X.2.1 (dk T_L_law_2 46 rfl) (lv_at hl 6 rfl) ?_
  refine lv_iconst (v := 1) X.1 X.2.1 (dk T_L_law_2 47 rfl) ic_1 ?_
  refine lv_iadd X.1 X.2.1 (dk T_L_law_2 48 rfl) ?_
  obtain ⟨g39, h⟩ := gd h
  refine va_sld X.1 X.2.1 hX hbl hbA Y.2 (inp g39) (dk T_L_law_2 49 rfl) ?_
  refine lv_aload_n X.1 X.2.1 (dk T_L_law_2 50 rfl) rfl (lv_at hl 1 rfl) ?_
  refine lv_iload X.1 X.2.1 (dk T_L_law_2 51 rfl) (lv_at hl 6 rfl) ?_
  refine lv_iconst (v := 2) X.1 X.2.1 (dk T_L_law_2 52 rfl) ic_2 ?_
  refine lv_iadd X.1 X.2.1 (dk T_L_law_2 53 rfl) ?_
  obtain ⟨g40, h⟩ := gd h
  refine va_sld X.1 X.2.1 hX hbl hbA Y.2 (inp g40) (dk T_L_law_2 54 rfl) ?_
  obtain ⟨q41, hq41, h⟩ := bs h
  refine gvIx (rest := []) X Y (c_X11_spoil (xs (x5 + 1).toNatClampNeg) (xs (x5 + 2).toNatClampNeg) q38.2 hq41) cb_L_112 rfl hl.1 rfl rfl (Nat.le_of_ble_eq_true rfl) ⟨(Nat.le_of_ble_eq_true rfl), (Nat.le_of_ble_eq_true rfl)⟩ ⟨law_le hkc (by decide), law_le hnc (by decide)⟩ (dk T_L_law_2 55 rfl) (fun H locs Y => ?_)
  refine lv_istore (lv' := [(7, .int (q41.1)), (6, .int (q38.1)), (0, .ref (b)), (1, .ref (g.2.2 (0))), (2, .ref (g.2.2 (101))), (3, .ref (g.2.2 (122))), (4, .ref (g.2.2 (123))), (5, .int (x5))]) X.1 X.2.1 (dk T_L_law_2 56 rfl) hl (Nat.le_of_ble_eq_true rfl) rfl (fun ls hl => ?_)
  refine lv_aload_n X.1 X.2.1 (dk T_L_law_2 57 rfl) rfl (lv_at hl 4 rfl) ?_
  obtain ⟨q42, hq42, h⟩ := bs h
  refine gvIx (rest := []) X Y (c_X11_thrown q41.2 hq42) cb_L_102 rfl hl.1 rfl rfl (Nat.le_of_ble_eq_true rfl) ⟨(Nat.le_of_ble_eq_true rfl), (Nat.le_of_ble_eq_true rfl)⟩ ⟨law_le hkc (by decide), law_le hnc (by decide)⟩ (dk T_L_law_2 58 rfl) (fun H locs Y => ?_)
  refine lv_iload X.1 X.2.1 (dk T_L_law_2 59 rfl) (lv_at hl 1 rfl) ?_
  refine lv_icmp_eq (tgt := 388) X.1 X.2.1 (dk T_L_law_2 60 rfl) rfl (fun c43 => ?_) (fun c43 => ?_)
  · replace h := ipos c43 h
    refine lv_iload X.1 X.2.1 (dk T_L_law_2 63 rfl) (lv_at hl 1 rfl) ?_
    refine lv_if_ne (tgt := 405) X.1 X.2.1 (dk T_L_law_3 0 rfl) rfl (fun c44 => ?_) (fun c44 => ?_)
    · replace h := ineg c44 h
      exact w_L_law_j405 X TX hst hX hbl hbA hkc hnc x5 q41.2 KB KX Y (lv_sub hl [2, 3, 4, 5, 6, 7] rfl) h
    · replace h := ipos c44 h
      refine lv_aload_n X.1 X.2.1 (dk T_L_law_3 1 rfl) rfl (lv_at hl 5 rfl) ?_
      refine lv_iconst (v := 0) X.1 X.2.1 (dk T_L_law_3 2 rfl) ic_0 ?_
      obtain ⟨g45, h⟩ := gd h
      refine gll X Y rfl (inp g45) (dk T_L_law_3 3 rfl) ?_
      refine lv_iload X.1 X.2.1 (dk T_L_law_3 4 rfl) (lv_at hl 0 rfl) ?_
      refine lv_i2l X.1 X.2.1 (dk T_L_law_3 5 rfl) rfl ?_
      refine W.lcmp X.1 X.2.1 (dk T_L_law_3 6 rfl) ?_
      refine lv_if_eq (tgt := 405) X.1 X.2.1 (dk T_L_law_3 7 rfl) rfl (fun c46 => ?_) (fun c46 => ?_)
      · replace h := ipos c46 h
        exact w_L_law_j405 X TX hst hX hbl hbA hkc hnc x5 q41.2 KB KX Y (lv_sub hl [2, 3, 4, 5, 6, 7] rfl) h
      · replace h := ineg c46 h
        cases h
  · replace h := ineg c43 h
    cases h
def f_L_law_j473 (xs : Nat → Int32) (L : Nat) (x5 : Int32) (σ : St) : Option ((Int32 × St) ⊕ St) :=
  f_L_law_j1667 xs L x5 σ
set_option maxHeartbeats 4000000 in
set_option maxRecDepth 100000 in
theorem w_L_law_j473 (X : Cx g RL cL_law 8 (some .boolean) p s m args meth c) (TX : TXs g (GA g s.heap.size) s s.heap) (hst : l.stackTraces = false) {b L : Nat} {xs : Nat → Int32} (hX : va_X b L xs s s.heap) (hbl : b < s.heap.size) (hbA : ¬ GA g s.heap.size b) {kc nc : Nat} (hkc : kc + 4 ≤ room_1.cells) (hnc : nc + 24 ≤ room_1.slots) (x5 : Int32) (σ : St) {w : (Int32 × St) ⊕ St} (KB : ∀ (v0_ : Int32) (v1_ : St), w = .inl (v0_, v1_) → ∀ (H : Heap) (locs : List Loc) (ls : Array Slot), Wd g s v1_ H locs → lv_has ls 8 [(0, .ref (b)), (1, .ref (g.2.2 (0))), (2, .ref (g.2.2 (101))), (3, .ref (g.2.2 (122))), (4, .ref (g.2.2 (123))), (5, .int (v0_))] → W p l e room_1 s m args below meth c H locs (kc + 4) (nc + 24) Q (F0 m 28 ls [])) (KX : ∀ (v : St), w = .inr v → ∀ (H : Heap) (locs : List Loc) (ls : Array Slot), Wd g s v H locs → lv_has ls 8 [(0, .ref (b))] → W p l e room_1 s m args below meth c H locs (kc) (nc) Q (F0 m 1673 ls [])) {H : Heap} {locs : List Loc} {ls : Array Slot} (Y : Wd g s σ H locs) (hl : lv_has ls 8 [(0, .ref (b)), (1, .ref (g.2.2 (0))), (2, .ref (g.2.2 (101))), (3, .ref (g.2.2 (122))), (4, .ref (g.2.2 (123))), (5, .int (x5))]) (h : f_L_law_j473 xs L x5 σ = some w) : W p l e room_1 s m args below meth c H locs (kc + 2) (nc + 12) Q (F0 m 473 ls []) := by
  unfold f_L_law_j473 at h
  refine lv_goto (tgt := 1667) X.1 X.2.1 (dk T_L_law_3 55 rfl) rfl ?_
  refine W.widen (k := kc + 4) (n := nc + 24) (by omega) (by omega) ?_
  exact w_L_law_j1667 X TX hst hX hbl hbA hkc hnc x5 σ KB KX Y (lv_sub hl [0, 1, 2, 3, 4, 5] rfl) h
def f_L_law_j408 (xs : Nat → Int32) (L : Nat) (x5 : Int32) (σ : St) : Option ((Int32 × St) ⊕ St) :=
  chk (inb (x5 + 1) L) (chk (inb (x5 + 2) L) ((f_L_sheet (xs (x5 + 1).toNatClampNeg) (xs (x5 + 2).toNatClampNeg) σ).bind fun q50 => chk (inb (x5 + 1) L) (chk (inb (x5 + 2) L) ((f_X11_sheet (xs (x5 + 1).toNatClampNeg) (xs (x5 + 2).toNatClampNeg) q50.2).bind fun q53 => (f_X11_thrown q53.2).bind fun q54 => if q54 = q50.1 then if q50.1 = 0 then chk (inb 0 1) (if (lg_cmp ((q53.2 122 (0 : Int32).toNatClampNeg).toInt64) q53.1.toInt64) = 0 then f_L_law_j473 xs L x5 q53.2 else none) else f_L_law_j473 xs L x5 q53.2 else none))))
set_option maxHeartbeats 4000000 in
set_option maxRecDepth 100000 in
theorem w_L_law_j408 (X : Cx g RL cL_law 8 (some .boolean) p s m args meth c) (TX : TXs g (GA g s.heap.size) s s.heap) (hst : l.stackTraces = false) {b L : Nat} {xs : Nat → Int32} (hX : va_X b L xs s s.heap) (hbl : b < s.heap.size) (hbA : ¬ GA g s.heap.size b) {kc nc : Nat} (hkc : kc + 4 ≤ room_1.cells) (hnc : nc + 24 ≤ room_1.slots) (x5 : Int32) (σ : St) {w : (Int32 × St) ⊕ St} (KB : ∀ (v0_ : Int32) (v1_ : St), w = .inl (v0_, v1_) → ∀ (H : Heap) (locs : List Loc) (ls : Array Slot), Wd g s v1_ H locs → lv_has ls 8 [(0, .ref (b)), (1, .ref (g.2.2 (0))), (2, .ref (g.2.2 (101))), (3, .ref (g.2.2 (122))), (4, .ref (g.2.2 (123))), (5, .int (v0_))] → W p l e room_1 s m args below meth c H locs (kc + 4) (nc + 24) Q (F0 m 28 ls [])) (KX : ∀ (v : St), w = .inr v → ∀ (H : Heap) (locs : List Loc) (ls : Array Slot), Wd g s v H locs → lv_has ls 8 [(0, .ref (b))] → W p l e room_1 s m args below meth c H locs (kc) (nc) Q (F0 m 1673 ls [])) {H : Heap} {locs : List Loc} {ls : Array Slot} (Y : Wd g s σ H locs) (hl : lv_has ls 8 [(0, .ref (b)), (1, .ref (g.2.2 (0))), (2, .ref (g.2.2 (101))), (3, .ref (g.2.2 (122))), (4, .ref (g.2.2 (123))), (5, .int (x5))]) (h : f_L_law_j408 xs L x5 σ = some w) : W p l e room_1 s m args below meth c H locs (kc) (nc) Q (F0 m 408 ls []) := by
  unfold f_L_law_j408 at h
  refine lv_aload_n X.1 X.2.1 (dk T_L_law_3 11 rfl) rfl (lv_at hl 1 rfl) ?_
  refine lv_aload_n X.1 X.2.1 (dk T_L_law_3 12 rfl) rfl (lv_at hl 0 rfl) ?_
  refine lv_iload X.1 X.2.1 (dk T_L_law_3 13 rfl) (lv_at hl 5 rfl) ?_
  refine lv_iconst (v := 1) X.1 X.2.1 (dk T_L_law_3 14 rfl) ic_1 ?_
  refine lv_iadd X.1 X.2.1 (dk T_L_law_3 15 rfl) ?_
  obtain ⟨g48, h⟩ := gd h
  refine va_sld X.1 X.2.1 hX hbl hbA Y.2 (inp g48) (dk T_L_law_3 16 rfl) ?_
  refine lv_aload_n X.1 X.2.1 (dk T_L_law_3 17 rfl) rfl (lv_at hl 0 rfl) ?_
  refine lv_iload X.1 X.2.1 (dk T_L_law_3 18 rfl) (lv_at hl 5 rfl) ?_
  refine lv_iconst (v := 2) X.1 X.2.1 (dk T_L_law_3 19 rfl) ic_2 ?_
  refine lv_iadd X.1 X.2.1 (dk T_L_law_3 20 rfl) ?_
  obtain ⟨g49, h⟩ := gd h
  refine va_sld X.1 X.2.1 hX hbl hbA Y.2 (inp g49) (dk T_L_law_3 21 rfl) ?_
  refine lv_aload_n X.1 X.2.1 (dk T_L_law_3 22 rfl) rfl (lv_at hl 3 rfl) ?_
  obtain ⟨q50, hq50, h⟩ := bs h
  refine gsH (rest := []) X TX hst Y (c_L_sheet (xs (x5 + 1).toNatClampNeg) (xs (x5 + 2).toNatClampNeg) σ hq50) cb_L_113 hl.1 rfl rfl (Nat.le_of_ble_eq_true rfl) ⟨(Nat.le_of_ble_eq_true rfl), (Nat.le_of_ble_eq_true rfl)⟩ ⟨law_le hkc (by decide), law_le hnc (by decide)⟩ (dk T_L_law_3 23 rfl) (fun H locs Y => ?_)
  refine lv_istore (lv' := [(6, .int (q50.1)), (0, .ref (b)), (1, .ref (g.2.2 (0))), (2, .ref (g.2.2 (101))), (3, .ref (g.2.2 (122))), (4, .ref (g.2.2 (123))), (5, .int (x5))]) X.1 X.2.1 (dk T_L_law_3 24 rfl) hl (Nat.le_of_ble_eq_true rfl) rfl (fun ls hl => ?_)
  refine lv_aload_n X.1 X.2.1 (dk T_L_law_3 25 rfl) rfl (lv_at hl 3 rfl) ?_
  refine lv_aload_n X.1 X.2.1 (dk T_L_law_3 26 rfl) rfl (lv_at hl 1 rfl) ?_
  refine lv_iload X.1 X.2.1 (dk T_L_law_3 27 rfl) (lv_at hl 6 rfl) ?_
  refine lv_iconst (v := 1) X.1 X.2.1 (dk T_L_law_3 28 rfl) ic_1 ?_
  refine lv_iadd X.1 X.2.1 (dk T_L_law_3 29 rfl) ?_
  obtain ⟨g51, h⟩ := gd h
  refine va_sld X.1 X.2.1 hX hbl hbA Y.2 (inp g51) (dk T_L_law_3 30 rfl) ?_
  refine lv_aload_n X.1 X.2.1 (dk T_L_law_3 31 rfl) rfl (lv_at hl 1 rfl) ?_
  refine lv_iload X.1 X.2.1 (dk T_L_law_3 32 rfl) (lv_at hl 6 rfl) ?_
  refine lv_iconst (v := 2) X.1 X.2.1 (dk T_L_law_3 33 rfl) ic_2 ?_
  refine lv_iadd X.1 X.2.1 (dk T_L_law_3 34 rfl) ?_
  obtain ⟨g52, h⟩ := gd h
  refine va_sld X.1 X.2.1 hX hbl hbA Y.2 (inp g52) (dk T_L_law_3 35 rfl) ?_
  obtain ⟨q53, hq53, h⟩ := bs h
  refine gvIx (rest := []) X Y (c_X11_sheet (xs (x5 + 1).toNatClampNeg) (xs (x5 + 2).toNatClampNeg) q50.2 hq53) cb_L_115 rfl hl.1 rfl rfl (Nat.le_of_ble_eq_true rfl) ⟨(Nat.le_of_ble_eq_true rfl), (Nat.le_of_ble_eq_true rfl)⟩ ⟨law_le hkc (by decide), law_le hnc (by decide)⟩ (dk T_L_law_3 36 rfl) (fun H locs Y => ?_)
  refine lv_istore (lv' := [(7, .int (q53.1)), (6, .int (q50.1)), (0, .ref (b)), (1, .ref (g.2.2 (0))), (2, .ref (g.2.2 (101))), (3, .ref (g.2.2 (122))), (4, .ref (g.2.2 (123))), (5, .int (x5))]) X.1 X.2.1 (dk T_L_law_3 37 rfl) hl (Nat.le_of_ble_eq_true rfl) rfl (fun ls hl => ?_)
  refine lv_aload_n X.1 X.2.1 (dk T_L_law_3 38 rfl) rfl (lv_at hl 4 rfl) ?_
  obtain ⟨q54, hq54, h⟩ := bs h
  refine gvIx (rest := []) X Y (c_X11_thrown q53.2 hq54) cb_L_102 rfl hl.1 rfl rfl (Nat.le_of_ble_eq_true rfl) ⟨(Nat.le_of_ble_eq_true rfl), (Nat.le_of_ble_eq_true rfl)⟩ ⟨law_le hkc (by decide), law_le hnc (by decide)⟩ (dk T_L_law_3 39 rfl) (fun H locs Y => ?_)
  refine lv_iload X.1 X.2.1 (dk T_L_law_3 40 rfl) (lv_at hl 1 rfl) ?_
  refine lv_icmp_eq (tgt := 456) X.1 X.2.1 (dk T_L_law_3 41 rfl) rfl (fun c55 => ?_) (fun c55 => ?_)
  · replace h := ipos c55 h
    refine lv_iload X.1 X.2.1 (dk T_L_law_3 44 rfl) (lv_at hl 1 rfl) ?_
    refine lv_if_ne (tgt := 473) X.1 X.2.1 (dk T_L_law_3 45 rfl) rfl (fun c56 => ?_) (fun c56 => ?_)
    · replace h := ineg c56 h
      exact w_L_law_j473 X TX hst hX hbl hbA hkc hnc x5 q53.2 KB KX Y (lv_sub hl [2, 3, 4, 5, 6, 7] rfl) h
    · replace h := ipos c56 h
      refine lv_aload_n X.1 X.2.1 (dk T_L_law_3 46 rfl) rfl (lv_at hl 5 rfl) ?_
      refine lv_iconst (v := 0) X.1 X.2.1 (dk T_L_law_3 47 rfl) ic_0 ?_
      obtain ⟨g57, h⟩ := gd h
      refine gll X Y rfl (inp g57) (dk T_L_law_3 48 rfl) ?_
      refine lv_iload X.1 X.2.1 (dk T_L_law_3 49 rfl) (lv_at hl 0 rfl) ?_
      refine lv_i2l X.1 X.2.1 (dk T_L_law_3 50 rfl) rfl ?_
      refine W.lcmp X.1 X.2.1 (dk T_L_law_3 51 rfl) ?_
      refine lv_if_eq (tgt := 473) X.1 X.2.1 (dk T_L_law_3 52 rfl) rfl (fun c58 => ?_) (fun c58 => ?_)
      · replace h := ipos c58 h
        exact w_L_law_j473 X TX hst hX hbl hbA hkc hnc x5 q53.2 KB KX Y (lv_sub hl [2, 3, 4, 5, 6, 7] rfl) h
      · replace h := ineg c58 h
        cases h
  · replace h := ineg c55 h
    cases h
def f_L_law_j541 (xs : Nat → Int32) (L : Nat) (x5 : Int32) (σ : St) : Option ((Int32 × St) ⊕ St) :=
  f_L_law_j1667 xs L x5 σ
set_option maxHeartbeats 4000000 in
set_option maxRecDepth 100000 in
theorem w_L_law_j541 (X : Cx g RL cL_law 8 (some .boolean) p s m args meth c) (TX : TXs g (GA g s.heap.size) s s.heap) (hst : l.stackTraces = false) {b L : Nat} {xs : Nat → Int32} (hX : va_X b L xs s s.heap) (hbl : b < s.heap.size) (hbA : ¬ GA g s.heap.size b) {kc nc : Nat} (hkc : kc + 4 ≤ room_1.cells) (hnc : nc + 24 ≤ room_1.slots) (x5 : Int32) (σ : St) {w : (Int32 × St) ⊕ St} (KB : ∀ (v0_ : Int32) (v1_ : St), w = .inl (v0_, v1_) → ∀ (H : Heap) (locs : List Loc) (ls : Array Slot), Wd g s v1_ H locs → lv_has ls 8 [(0, .ref (b)), (1, .ref (g.2.2 (0))), (2, .ref (g.2.2 (101))), (3, .ref (g.2.2 (122))), (4, .ref (g.2.2 (123))), (5, .int (v0_))] → W p l e room_1 s m args below meth c H locs (kc + 4) (nc + 24) Q (F0 m 28 ls [])) (KX : ∀ (v : St), w = .inr v → ∀ (H : Heap) (locs : List Loc) (ls : Array Slot), Wd g s v H locs → lv_has ls 8 [(0, .ref (b))] → W p l e room_1 s m args below meth c H locs (kc) (nc) Q (F0 m 1673 ls [])) {H : Heap} {locs : List Loc} {ls : Array Slot} (Y : Wd g s σ H locs) (hl : lv_has ls 8 [(0, .ref (b)), (1, .ref (g.2.2 (0))), (2, .ref (g.2.2 (101))), (3, .ref (g.2.2 (122))), (4, .ref (g.2.2 (123))), (5, .int (x5))]) (h : f_L_law_j541 xs L x5 σ = some w) : W p l e room_1 s m args below meth c H locs (kc + 2) (nc + 12) Q (F0 m 541 ls []) := by
  unfold f_L_law_j541 at h
  refine lv_goto (tgt := 1667) X.1 X.2.1 (dk T_L_law_4 36 rfl) rfl ?_
  refine W.widen (k := kc + 4) (n := nc + 24) (by omega) (by omega) ?_
  exact w_L_law_j1667 X TX hst hX hbl hbA hkc hnc x5 σ KB KX Y (lv_sub hl [0, 1, 2, 3, 4, 5] rfl) h
def f_L_law_j476 (xs : Nat → Int32) (L : Nat) (x5 : Int32) (σ : St) : Option ((Int32 × St) ⊕ St) :=
  chk (inb (x5 + 1) L) (chk (inb (x5 + 2) L) ((f_L_cell (xs (x5 + 1).toNatClampNeg) (xs (x5 + 2).toNatClampNeg) σ).bind fun q62 => chk (inb (x5 + 1) L) (chk (inb (x5 + 2) L) ((f_X11_cell (xs (x5 + 1).toNatClampNeg) (xs (x5 + 2).toNatClampNeg) q62.2).bind fun q65 => (f_X11_thrown q65.2).bind fun q66 => if q66 = q62.1 then if q62.1 = 0 then chk (inb 0 1) (if (lg_cmp ((q65.2 122 (0 : Int32).toNatClampNeg).toInt64) q65.1.toInt64) = 0 then f_L_law_j541 xs L x5 q65.2 else none) else f_L_law_j541 xs L x5 q65.2 else none))))
set_option maxHeartbeats 4000000 in
set_option maxRecDepth 100000 in
theorem w_L_law_j476 (X : Cx g RL cL_law 8 (some .boolean) p s m args meth c) (TX : TXs g (GA g s.heap.size) s s.heap) (hst : l.stackTraces = false) {b L : Nat} {xs : Nat → Int32} (hX : va_X b L xs s s.heap) (hbl : b < s.heap.size) (hbA : ¬ GA g s.heap.size b) {kc nc : Nat} (hkc : kc + 4 ≤ room_1.cells) (hnc : nc + 24 ≤ room_1.slots) (x5 : Int32) (σ : St) {w : (Int32 × St) ⊕ St} (KB : ∀ (v0_ : Int32) (v1_ : St), w = .inl (v0_, v1_) → ∀ (H : Heap) (locs : List Loc) (ls : Array Slot), Wd g s v1_ H locs → lv_has ls 8 [(0, .ref (b)), (1, .ref (g.2.2 (0))), (2, .ref (g.2.2 (101))), (3, .ref (g.2.2 (122))), (4, .ref (g.2.2 (123))), (5, .int (v0_))] → W p l e room_1 s m args below meth c H locs (kc + 4) (nc + 24) Q (F0 m 28 ls [])) (KX : ∀ (v : St), w = .inr v → ∀ (H : Heap) (locs : List Loc) (ls : Array Slot), Wd g s v H locs → lv_has ls 8 [(0, .ref (b))] → W p l e room_1 s m args below meth c H locs (kc) (nc) Q (F0 m 1673 ls [])) {H : Heap} {locs : List Loc} {ls : Array Slot} (Y : Wd g s σ H locs) (hl : lv_has ls 8 [(0, .ref (b)), (1, .ref (g.2.2 (0))), (2, .ref (g.2.2 (101))), (3, .ref (g.2.2 (122))), (4, .ref (g.2.2 (123))), (5, .int (x5))]) (h : f_L_law_j476 xs L x5 σ = some w) : W p l e room_1 s m args below meth c H locs (kc) (nc) Q (F0 m 476 ls []) := by
  unfold f_L_law_j476 at h
  refine lv_aload_n X.1 X.2.1 (dk T_L_law_3 56 rfl) rfl (lv_at hl 1 rfl) ?_
  refine lv_aload_n X.1 X.2.1 (dk T_L_law_3 57 rfl) rfl (lv_at hl 0 rfl) ?_
  refine lv_iload X.1 X.2.1 (dk T_L_law_3 58 rfl) (lv_at hl 5 rfl) ?_
  refine lv_iconst (v := 1) X.1 X.2.1 (dk T_L_law_3 59 rfl) ic_1 ?_
  refine lv_iadd X.1 X.2.1 (dk T_L_law_3 60 rfl) ?_
  obtain ⟨g60, h⟩ := gd h
  refine va_sld X.1 X.2.1 hX hbl hbA Y.2 (inp g60) (dk T_L_law_3 61 rfl) ?_
  refine lv_aload_n X.1 X.2.1 (dk T_L_law_3 62 rfl) rfl (lv_at hl 0 rfl) ?_
  refine lv_iload X.1 X.2.1 (dk T_L_law_3 63 rfl) (lv_at hl 5 rfl) ?_
  refine lv_iconst (v := 2) X.1 X.2.1 (dk T_L_law_4 0 rfl) ic_2 ?_
  refine lv_iadd X.1 X.2.1 (dk T_L_law_4 1 rfl) ?_
  obtain ⟨g61, h⟩ := gd h
  refine va_sld X.1 X.2.1 hX hbl hbA Y.2 (inp g61) (dk T_L_law_4 2 rfl) ?_
  refine lv_aload_n X.1 X.2.1 (dk T_L_law_4 3 rfl) rfl (lv_at hl 3 rfl) ?_
  obtain ⟨q62, hq62, h⟩ := bs h
  refine gsH (rest := []) X TX hst Y (c_L_cell (xs (x5 + 1).toNatClampNeg) (xs (x5 + 2).toNatClampNeg) σ hq62) cb_L_116 hl.1 rfl rfl (Nat.le_of_ble_eq_true rfl) ⟨(Nat.le_of_ble_eq_true rfl), (Nat.le_of_ble_eq_true rfl)⟩ ⟨law_le hkc (by decide), law_le hnc (by decide)⟩ (dk T_L_law_4 4 rfl) (fun H locs Y => ?_)
  refine lv_istore (lv' := [(6, .int (q62.1)), (0, .ref (b)), (1, .ref (g.2.2 (0))), (2, .ref (g.2.2 (101))), (3, .ref (g.2.2 (122))), (4, .ref (g.2.2 (123))), (5, .int (x5))]) X.1 X.2.1 (dk T_L_law_4 5 rfl) hl (Nat.le_of_ble_eq_true rfl) rfl (fun ls hl => ?_)
  refine lv_aload_n X.1 X.2.1 (dk T_L_law_4 6 rfl) rfl (lv_at hl 3 rfl) ?_
  refine lv_aload_n X.1 X.2.1 (dk T_L_law_4 7 rfl) rfl (lv_at hl 1 rfl) ?_
  refine lv_iload X.1 X.2.1 (dk T_L_law_4 8 rfl) (lv_at hl 6 rfl) ?_
  refine lv_iconst (v := 1) X.1 X.2.1 (dk T_L_law_4 9 rfl) ic_1 ?_
  refine lv_iadd X.1 X.2.1 (dk T_L_law_4 10 rfl) ?_
  obtain ⟨g63, h⟩ := gd h
  refine va_sld X.1 X.2.1 hX hbl hbA Y.2 (inp g63) (dk T_L_law_4 11 rfl) ?_
  refine lv_aload_n X.1 X.2.1 (dk T_L_law_4 12 rfl) rfl (lv_at hl 1 rfl) ?_
  refine lv_iload X.1 X.2.1 (dk T_L_law_4 13 rfl) (lv_at hl 6 rfl) ?_
  refine lv_iconst (v := 2) X.1 X.2.1 (dk T_L_law_4 14 rfl) ic_2 ?_
  refine lv_iadd X.1 X.2.1 (dk T_L_law_4 15 rfl) ?_
  obtain ⟨g64, h⟩ := gd h
  refine va_sld X.1 X.2.1 hX hbl hbA Y.2 (inp g64) (dk T_L_law_4 16 rfl) ?_
  obtain ⟨q65, hq65, h⟩ := bs h
  refine gvIx (rest := []) X Y (c_X11_cell (xs (x5 + 1).toNatClampNeg) (xs (x5 + 2).toNatClampNeg) q62.2 hq65) cb_L_118 rfl hl.1 rfl rfl (Nat.le_of_ble_eq_true rfl) ⟨(Nat.le_of_ble_eq_true rfl), (Nat.le_of_ble_eq_true rfl)⟩ ⟨law_le hkc (by decide), law_le hnc (by decide)⟩ (dk T_L_law_4 17 rfl) (fun H locs Y => ?_)
  refine lv_istore (lv' := [(7, .int (q65.1)), (6, .int (q62.1)), (0, .ref (b)), (1, .ref (g.2.2 (0))), (2, .ref (g.2.2 (101))), (3, .ref (g.2.2 (122))), (4, .ref (g.2.2 (123))), (5, .int (x5))]) X.1 X.2.1 (dk T_L_law_4 18 rfl) hl (Nat.le_of_ble_eq_true rfl) rfl (fun ls hl => ?_)
  refine lv_aload_n X.1 X.2.1 (dk T_L_law_4 19 rfl) rfl (lv_at hl 4 rfl) ?_
  obtain ⟨q66, hq66, h⟩ := bs h
  refine gvIx (rest := []) X Y (c_X11_thrown q65.2 hq66) cb_L_102 rfl hl.1 rfl rfl (Nat.le_of_ble_eq_true rfl) ⟨(Nat.le_of_ble_eq_true rfl), (Nat.le_of_ble_eq_true rfl)⟩ ⟨law_le hkc (by decide), law_le hnc (by decide)⟩ (dk T_L_law_4 20 rfl) (fun H locs Y => ?_)
  refine lv_iload X.1 X.2.1 (dk T_L_law_4 21 rfl) (lv_at hl 1 rfl) ?_
  refine lv_icmp_eq (tgt := 524) X.1 X.2.1 (dk T_L_law_4 22 rfl) rfl (fun c67 => ?_) (fun c67 => ?_)
  · replace h := ipos c67 h
    refine lv_iload X.1 X.2.1 (dk T_L_law_4 25 rfl) (lv_at hl 1 rfl) ?_
    refine lv_if_ne (tgt := 541) X.1 X.2.1 (dk T_L_law_4 26 rfl) rfl (fun c68 => ?_) (fun c68 => ?_)
    · replace h := ineg c68 h
      exact w_L_law_j541 X TX hst hX hbl hbA hkc hnc x5 q65.2 KB KX Y (lv_sub hl [2, 3, 4, 5, 6, 7] rfl) h
    · replace h := ipos c68 h
      refine lv_aload_n X.1 X.2.1 (dk T_L_law_4 27 rfl) rfl (lv_at hl 5 rfl) ?_
      refine lv_iconst (v := 0) X.1 X.2.1 (dk T_L_law_4 28 rfl) ic_0 ?_
      obtain ⟨g69, h⟩ := gd h
      refine gll X Y rfl (inp g69) (dk T_L_law_4 29 rfl) ?_
      refine lv_iload X.1 X.2.1 (dk T_L_law_4 30 rfl) (lv_at hl 0 rfl) ?_
      refine lv_i2l X.1 X.2.1 (dk T_L_law_4 31 rfl) rfl ?_
      refine W.lcmp X.1 X.2.1 (dk T_L_law_4 32 rfl) ?_
      refine lv_if_eq (tgt := 541) X.1 X.2.1 (dk T_L_law_4 33 rfl) rfl (fun c70 => ?_) (fun c70 => ?_)
      · replace h := ipos c70 h
        exact w_L_law_j541 X TX hst hX hbl hbA hkc hnc x5 q65.2 KB KX Y (lv_sub hl [2, 3, 4, 5, 6, 7] rfl) h
      · replace h := ineg c70 h
        cases h
  · replace h := ineg c67 h
    cases h
def f_L_law_j609 (xs : Nat → Int32) (L : Nat) (x5 : Int32) (σ : St) : Option ((Int32 × St) ⊕ St) :=
  f_L_law_j1667 xs L x5 σ
set_option maxHeartbeats 4000000 in
set_option maxRecDepth 100000 in
theorem w_L_law_j609 (X : Cx g RL cL_law 8 (some .boolean) p s m args meth c) (TX : TXs g (GA g s.heap.size) s s.heap) (hst : l.stackTraces = false) {b L : Nat} {xs : Nat → Int32} (hX : va_X b L xs s s.heap) (hbl : b < s.heap.size) (hbA : ¬ GA g s.heap.size b) {kc nc : Nat} (hkc : kc + 4 ≤ room_1.cells) (hnc : nc + 24 ≤ room_1.slots) (x5 : Int32) (σ : St) {w : (Int32 × St) ⊕ St} (KB : ∀ (v0_ : Int32) (v1_ : St), w = .inl (v0_, v1_) → ∀ (H : Heap) (locs : List Loc) (ls : Array Slot), Wd g s v1_ H locs → lv_has ls 8 [(0, .ref (b)), (1, .ref (g.2.2 (0))), (2, .ref (g.2.2 (101))), (3, .ref (g.2.2 (122))), (4, .ref (g.2.2 (123))), (5, .int (v0_))] → W p l e room_1 s m args below meth c H locs (kc + 4) (nc + 24) Q (F0 m 28 ls [])) (KX : ∀ (v : St), w = .inr v → ∀ (H : Heap) (locs : List Loc) (ls : Array Slot), Wd g s v H locs → lv_has ls 8 [(0, .ref (b))] → W p l e room_1 s m args below meth c H locs (kc) (nc) Q (F0 m 1673 ls [])) {H : Heap} {locs : List Loc} {ls : Array Slot} (Y : Wd g s σ H locs) (hl : lv_has ls 8 [(0, .ref (b)), (1, .ref (g.2.2 (0))), (2, .ref (g.2.2 (101))), (3, .ref (g.2.2 (122))), (4, .ref (g.2.2 (123))), (5, .int (x5))]) (h : f_L_law_j609 xs L x5 σ = some w) : W p l e room_1 s m args below meth c H locs (kc + 2) (nc + 12) Q (F0 m 609 ls []) := by
  unfold f_L_law_j609 at h
  refine lv_goto (tgt := 1667) X.1 X.2.1 (dk T_L_law_5 17 rfl) rfl ?_
  refine W.widen (k := kc + 4) (n := nc + 24) (by omega) (by omega) ?_
  exact w_L_law_j1667 X TX hst hX hbl hbA hkc hnc x5 σ KB KX Y (lv_sub hl [0, 1, 2, 3, 4, 5] rfl) h
def f_L_law_j544 (xs : Nat → Int32) (L : Nat) (x5 : Int32) (σ : St) : Option ((Int32 × St) ⊕ St) :=
  chk (inb (x5 + 1) L) (chk (inb (x5 + 2) L) ((f_L_shape (xs (x5 + 1).toNatClampNeg) (xs (x5 + 2).toNatClampNeg) σ).bind fun q74 => chk (inb (x5 + 1) L) (chk (inb (x5 + 2) L) ((f_X11_shape (xs (x5 + 1).toNatClampNeg) (xs (x5 + 2).toNatClampNeg) q74.2).bind fun q77 => (f_X11_thrown q77.2).bind fun q78 => if q78 = q74.1 then if q74.1 = 0 then chk (inb 0 1) (if (lg_cmp ((q77.2 122 (0 : Int32).toNatClampNeg).toInt64) q77.1.toInt64) = 0 then f_L_law_j609 xs L x5 q77.2 else none) else f_L_law_j609 xs L x5 q77.2 else none))))
set_option maxHeartbeats 4000000 in
set_option maxRecDepth 100000 in
theorem w_L_law_j544 (X : Cx g RL cL_law 8 (some .boolean) p s m args meth c) (TX : TXs g (GA g s.heap.size) s s.heap) (hst : l.stackTraces = false) {b L : Nat} {xs : Nat → Int32} (hX : va_X b L xs s s.heap) (hbl : b < s.heap.size) (hbA : ¬ GA g s.heap.size b) {kc nc : Nat} (hkc : kc + 4 ≤ room_1.cells) (hnc : nc + 24 ≤ room_1.slots) (x5 : Int32) (σ : St) {w : (Int32 × St) ⊕ St} (KB : ∀ (v0_ : Int32) (v1_ : St), w = .inl (v0_, v1_) → ∀ (H : Heap) (locs : List Loc) (ls : Array Slot), Wd g s v1_ H locs → lv_has ls 8 [(0, .ref (b)), (1, .ref (g.2.2 (0))), (2, .ref (g.2.2 (101))), (3, .ref (g.2.2 (122))), (4, .ref (g.2.2 (123))), (5, .int (v0_))] → W p l e room_1 s m args below meth c H locs (kc + 4) (nc + 24) Q (F0 m 28 ls [])) (KX : ∀ (v : St), w = .inr v → ∀ (H : Heap) (locs : List Loc) (ls : Array Slot), Wd g s v H locs → lv_has ls 8 [(0, .ref (b))] → W p l e room_1 s m args below meth c H locs (kc) (nc) Q (F0 m 1673 ls [])) {H : Heap} {locs : List Loc} {ls : Array Slot} (Y : Wd g s σ H locs) (hl : lv_has ls 8 [(0, .ref (b)), (1, .ref (g.2.2 (0))), (2, .ref (g.2.2 (101))), (3, .ref (g.2.2 (122))), (4, .ref (g.2.2 (123))), (5, .int (x5))]) (h : f_L_law_j544 xs L x5 σ = some w) : W p l e room_1 s m args below meth c H locs (kc) (nc) Q (F0 m 544 ls []) := by
  unfold f_L_law_j544 at h
  refine lv_aload_n X.1 X.2.1 (dk T_L_law_4 37 rfl) rfl (lv_at hl 1 rfl) ?_
  refine lv_aload_n X.1 X.2.1 (dk T_L_law_4 38 rfl) rfl (lv_at hl 0 rfl) ?_
  refine lv_iload X.1 X.2.1 (dk T_L_law_4 39 rfl) (lv_at hl 5 rfl) ?_
  refine lv_iconst (v := 1) X.1 X.2.1 (dk T_L_law_4 40 rfl) ic_1 ?_
  refine lv_iadd X.1 X.2.1 (dk T_L_law_4 41 rfl) ?_
  obtain ⟨g72, h⟩ := gd h
  refine va_sld X.1 X.2.1 hX hbl hbA Y.2 (inp g72) (dk T_L_law_4 42 rfl) ?_
  refine lv_aload_n X.1 X.2.1 (dk T_L_law_4 43 rfl) rfl (lv_at hl 0 rfl) ?_
  refine lv_iload X.1 X.2.1 (dk T_L_law_4 44 rfl) (lv_at hl 5 rfl) ?_
  refine lv_iconst (v := 2) X.1 X.2.1 (dk T_L_law_4 45 rfl) ic_2 ?_
  refine lv_iadd X.1 X.2.1 (dk T_L_law_4 46 rfl) ?_
  obtain ⟨g73, h⟩ := gd h
  refine va_sld X.1 X.2.1 hX hbl hbA Y.2 (inp g73) (dk T_L_law_4 47 rfl) ?_
  refine lv_aload_n X.1 X.2.1 (dk T_L_law_4 48 rfl) rfl (lv_at hl 3 rfl) ?_
  obtain ⟨q74, hq74, h⟩ := bs h
  refine gsH (rest := []) X TX hst Y (c_L_shape (xs (x5 + 1).toNatClampNeg) (xs (x5 + 2).toNatClampNeg) σ hq74) cb_L_119 hl.1 rfl rfl (Nat.le_of_ble_eq_true rfl) ⟨(Nat.le_of_ble_eq_true rfl), (Nat.le_of_ble_eq_true rfl)⟩ ⟨law_le hkc (by decide), law_le hnc (by decide)⟩ (dk T_L_law_4 49 rfl) (fun H locs Y => ?_)
  refine lv_istore (lv' := [(6, .int (q74.1)), (0, .ref (b)), (1, .ref (g.2.2 (0))), (2, .ref (g.2.2 (101))), (3, .ref (g.2.2 (122))), (4, .ref (g.2.2 (123))), (5, .int (x5))]) X.1 X.2.1 (dk T_L_law_4 50 rfl) hl (Nat.le_of_ble_eq_true rfl) rfl (fun ls hl => ?_)
  refine lv_aload_n X.1 X.2.1 (dk T_L_law_4 51 rfl) rfl (lv_at hl 3 rfl) ?_
  refine lv_aload_n X.1 X.2.1 (dk T_L_law_4 52 rfl) rfl (lv_at hl 1 rfl) ?_
  refine lv_iload X.1 X.2.1 (dk T_L_law_4 53 rfl) (lv_at hl 6 rfl) ?_
  refine lv_iconst (v := 1) X.1 X.2.1 (dk T_L_law_4 54 rfl) ic_1 ?_
  refine lv_iadd X.1 X.2.1 (dk T_L_law_4 55 rfl) ?_
  obtain ⟨g75, h⟩ := gd h
  refine va_sld X.1 X.2.1 hX hbl hbA Y.2 (inp g75) (dk T_L_law_4 56 rfl) ?_
  refine lv_aload_n X.1 X.2.1 (dk T_L_law_4 57 rfl) rfl (lv_at hl 1 rfl) ?_
  refine lv_iload X.1 X.2.1 (dk T_L_law_4 58 rfl) (lv_at hl 6 rfl) ?_
  refine lv_iconst (v := 2) X.1 X.2.1 (dk T_L_law_4 59 rfl) ic_2 ?_
  refine lv_iadd X.1 X.2.1 (dk T_L_law_4 60 rfl) ?_
  obtain ⟨g76, h⟩ := gd h
  refine va_sld X.1 X.2.1 hX hbl hbA Y.2 (inp g76) (dk T_L_law_4 61 rfl) ?_
  obtain ⟨q77, hq77, h⟩ := bs h
  refine gvIx (rest := []) X Y (c_X11_shape (xs (x5 + 1).toNatClampNeg) (xs (x5 + 2).toNatClampNeg) q74.2 hq77) cb_L_121 rfl hl.1 rfl rfl (Nat.le_of_ble_eq_true rfl) ⟨(Nat.le_of_ble_eq_true rfl), (Nat.le_of_ble_eq_true rfl)⟩ ⟨law_le hkc (by decide), law_le hnc (by decide)⟩ (dk T_L_law_4 62 rfl) (fun H locs Y => ?_)
  refine lv_istore (lv' := [(7, .int (q77.1)), (6, .int (q74.1)), (0, .ref (b)), (1, .ref (g.2.2 (0))), (2, .ref (g.2.2 (101))), (3, .ref (g.2.2 (122))), (4, .ref (g.2.2 (123))), (5, .int (x5))]) X.1 X.2.1 (dk T_L_law_4 63 rfl) hl (Nat.le_of_ble_eq_true rfl) rfl (fun ls hl => ?_)
  refine lv_aload_n X.1 X.2.1 (dk T_L_law_5 0 rfl) rfl (lv_at hl 4 rfl) ?_
  obtain ⟨q78, hq78, h⟩ := bs h
  refine gvIx (rest := []) X Y (c_X11_thrown q77.2 hq78) cb_L_102 rfl hl.1 rfl rfl (Nat.le_of_ble_eq_true rfl) ⟨(Nat.le_of_ble_eq_true rfl), (Nat.le_of_ble_eq_true rfl)⟩ ⟨law_le hkc (by decide), law_le hnc (by decide)⟩ (dk T_L_law_5 1 rfl) (fun H locs Y => ?_)
  refine lv_iload X.1 X.2.1 (dk T_L_law_5 2 rfl) (lv_at hl 1 rfl) ?_
  refine lv_icmp_eq (tgt := 592) X.1 X.2.1 (dk T_L_law_5 3 rfl) rfl (fun c79 => ?_) (fun c79 => ?_)
  · replace h := ipos c79 h
    refine lv_iload X.1 X.2.1 (dk T_L_law_5 6 rfl) (lv_at hl 1 rfl) ?_
    refine lv_if_ne (tgt := 609) X.1 X.2.1 (dk T_L_law_5 7 rfl) rfl (fun c80 => ?_) (fun c80 => ?_)
    · replace h := ineg c80 h
      exact w_L_law_j609 X TX hst hX hbl hbA hkc hnc x5 q77.2 KB KX Y (lv_sub hl [2, 3, 4, 5, 6, 7] rfl) h
    · replace h := ipos c80 h
      refine lv_aload_n X.1 X.2.1 (dk T_L_law_5 8 rfl) rfl (lv_at hl 5 rfl) ?_
      refine lv_iconst (v := 0) X.1 X.2.1 (dk T_L_law_5 9 rfl) ic_0 ?_
      obtain ⟨g81, h⟩ := gd h
      refine gll X Y rfl (inp g81) (dk T_L_law_5 10 rfl) ?_
      refine lv_iload X.1 X.2.1 (dk T_L_law_5 11 rfl) (lv_at hl 0 rfl) ?_
      refine lv_i2l X.1 X.2.1 (dk T_L_law_5 12 rfl) rfl ?_
      refine W.lcmp X.1 X.2.1 (dk T_L_law_5 13 rfl) ?_
      refine lv_if_eq (tgt := 609) X.1 X.2.1 (dk T_L_law_5 14 rfl) rfl (fun c82 => ?_) (fun c82 => ?_)
      · replace h := ipos c82 h
        exact w_L_law_j609 X TX hst hX hbl hbA hkc hnc x5 q77.2 KB KX Y (lv_sub hl [2, 3, 4, 5, 6, 7] rfl) h
      · replace h := ineg c82 h
        cases h
  · replace h := ineg c79 h
    cases h
def f_L_law_j677 (xs : Nat → Int32) (L : Nat) (x5 : Int32) (σ : St) : Option ((Int32 × St) ⊕ St) :=
  f_L_law_j1667 xs L x5 σ
set_option maxHeartbeats 4000000 in
set_option maxRecDepth 100000 in
theorem w_L_law_j677 (X : Cx g RL cL_law 8 (some .boolean) p s m args meth c) (TX : TXs g (GA g s.heap.size) s s.heap) (hst : l.stackTraces = false) {b L : Nat} {xs : Nat → Int32} (hX : va_X b L xs s s.heap) (hbl : b < s.heap.size) (hbA : ¬ GA g s.heap.size b) {kc nc : Nat} (hkc : kc + 4 ≤ room_1.cells) (hnc : nc + 24 ≤ room_1.slots) (x5 : Int32) (σ : St) {w : (Int32 × St) ⊕ St} (KB : ∀ (v0_ : Int32) (v1_ : St), w = .inl (v0_, v1_) → ∀ (H : Heap) (locs : List Loc) (ls : Array Slot), Wd g s v1_ H locs → lv_has ls 8 [(0, .ref (b)), (1, .ref (g.2.2 (0))), (2, .ref (g.2.2 (101))), (3, .ref (g.2.2 (122))), (4, .ref (g.2.2 (123))), (5, .int (v0_))] → W p l e room_1 s m args below meth c H locs (kc + 4) (nc + 24) Q (F0 m 28 ls [])) (KX : ∀ (v : St), w = .inr v → ∀ (H : Heap) (locs : List Loc) (ls : Array Slot), Wd g s v H locs → lv_has ls 8 [(0, .ref (b))] → W p l e room_1 s m args below meth c H locs (kc) (nc) Q (F0 m 1673 ls [])) {H : Heap} {locs : List Loc} {ls : Array Slot} (Y : Wd g s σ H locs) (hl : lv_has ls 8 [(0, .ref (b)), (1, .ref (g.2.2 (0))), (2, .ref (g.2.2 (101))), (3, .ref (g.2.2 (122))), (4, .ref (g.2.2 (123))), (5, .int (x5))]) (h : f_L_law_j677 xs L x5 σ = some w) : W p l e room_1 s m args below meth c H locs (kc + 2) (nc + 12) Q (F0 m 677 ls []) := by
  unfold f_L_law_j677 at h
  refine lv_goto (tgt := 1667) X.1 X.2.1 (dk T_L_law_5 62 rfl) rfl ?_
  refine W.widen (k := kc + 4) (n := nc + 24) (by omega) (by omega) ?_
  exact w_L_law_j1667 X TX hst hX hbl hbA hkc hnc x5 σ KB KX Y (lv_sub hl [0, 1, 2, 3, 4, 5] rfl) h
def f_L_law_j612 (xs : Nat → Int32) (L : Nat) (x5 : Int32) (σ : St) : Option ((Int32 × St) ⊕ St) :=
  chk (inb (x5 + 1) L) (chk (inb (x5 + 2) L) ((f_L_turned (xs (x5 + 1).toNatClampNeg) (xs (x5 + 2).toNatClampNeg) σ).bind fun q86 => chk (inb (x5 + 1) L) (chk (inb (x5 + 2) L) ((f_X11_turned (xs (x5 + 1).toNatClampNeg) (xs (x5 + 2).toNatClampNeg) q86.2).bind fun q89 => (f_X11_thrown q89.2).bind fun q90 => if q90 = q86.1 then if q86.1 = 0 then chk (inb 0 1) (if (lg_cmp ((q89.2 122 (0 : Int32).toNatClampNeg).toInt64) q89.1.toInt64) = 0 then f_L_law_j677 xs L x5 q89.2 else none) else f_L_law_j677 xs L x5 q89.2 else none))))
set_option maxHeartbeats 4000000 in
set_option maxRecDepth 100000 in
theorem w_L_law_j612 (X : Cx g RL cL_law 8 (some .boolean) p s m args meth c) (TX : TXs g (GA g s.heap.size) s s.heap) (hst : l.stackTraces = false) {b L : Nat} {xs : Nat → Int32} (hX : va_X b L xs s s.heap) (hbl : b < s.heap.size) (hbA : ¬ GA g s.heap.size b) {kc nc : Nat} (hkc : kc + 4 ≤ room_1.cells) (hnc : nc + 24 ≤ room_1.slots) (x5 : Int32) (σ : St) {w : (Int32 × St) ⊕ St} (KB : ∀ (v0_ : Int32) (v1_ : St), w = .inl (v0_, v1_) → ∀ (H : Heap) (locs : List Loc) (ls : Array Slot), Wd g s v1_ H locs → lv_has ls 8 [(0, .ref (b)), (1, .ref (g.2.2 (0))), (2, .ref (g.2.2 (101))), (3, .ref (g.2.2 (122))), (4, .ref (g.2.2 (123))), (5, .int (v0_))] → W p l e room_1 s m args below meth c H locs (kc + 4) (nc + 24) Q (F0 m 28 ls [])) (KX : ∀ (v : St), w = .inr v → ∀ (H : Heap) (locs : List Loc) (ls : Array Slot), Wd g s v H locs → lv_has ls 8 [(0, .ref (b))] → W p l e room_1 s m args below meth c H locs (kc) (nc) Q (F0 m 1673 ls [])) {H : Heap} {locs : List Loc} {ls : Array Slot} (Y : Wd g s σ H locs) (hl : lv_has ls 8 [(0, .ref (b)), (1, .ref (g.2.2 (0))), (2, .ref (g.2.2 (101))), (3, .ref (g.2.2 (122))), (4, .ref (g.2.2 (123))), (5, .int (x5))]) (h : f_L_law_j612 xs L x5 σ = some w) : W p l e room_1 s m args below meth c H locs (kc) (nc) Q (F0 m 612 ls []) := by
  unfold f_L_law_j612 at h
  refine lv_aload_n X.1 X.2.1 (dk T_L_law_5 18 rfl) rfl (lv_at hl 1 rfl) ?_
  refine lv_aload_n X.1 X.2.1 (dk T_L_law_5 19 rfl) rfl (lv_at hl 0 rfl) ?_
  refine lv_iload X.1 X.2.1 (dk T_L_law_5 20 rfl) (lv_at hl 5 rfl) ?_
  refine lv_iconst (v := 1) X.1 X.2.1 (dk T_L_law_5 21 rfl) ic_1 ?_
  refine lv_iadd X.1 X.2.1 (dk T_L_law_5 22 rfl) ?_
  obtain ⟨g84, h⟩ := gd h
  refine va_sld X.1 X.2.1 hX hbl hbA Y.2 (inp g84) (dk T_L_law_5 23 rfl) ?_
  refine lv_aload_n X.1 X.2.1 (dk T_L_law_5 24 rfl) rfl (lv_at hl 0 rfl) ?_
  refine lv_iload X.1 X.2.1 (dk T_L_law_5 25 rfl) (lv_at hl 5 rfl) ?_
  refine lv_iconst (v := 2) X.1 X.2.1 (dk T_L_law_5 26 rfl) ic_2 ?_
  refine lv_iadd X.1 X.2.1 (dk T_L_law_5 27 rfl) ?_
  obtain ⟨g85, h⟩ := gd h
  refine va_sld X.1 X.2.1 hX hbl hbA Y.2 (inp g85) (dk T_L_law_5 28 rfl) ?_
  refine lv_aload_n X.1 X.2.1 (dk T_L_law_5 29 rfl) rfl (lv_at hl 3 rfl) ?_
  obtain ⟨q86, hq86, h⟩ := bs h
  refine gsH (rest := []) X TX hst Y (c_L_turned (xs (x5 + 1).toNatClampNeg) (xs (x5 + 2).toNatClampNeg) σ hq86) cb_L_122 hl.1 rfl rfl (Nat.le_of_ble_eq_true rfl) ⟨(Nat.le_of_ble_eq_true rfl), (Nat.le_of_ble_eq_true rfl)⟩ ⟨law_le hkc (by decide), law_le hnc (by decide)⟩ (dk T_L_law_5 30 rfl) (fun H locs Y => ?_)
  refine lv_istore (lv' := [(6, .int (q86.1)), (0, .ref (b)), (1, .ref (g.2.2 (0))), (2, .ref (g.2.2 (101))), (3, .ref (g.2.2 (122))), (4, .ref (g.2.2 (123))), (5, .int (x5))]) X.1 X.2.1 (dk T_L_law_5 31 rfl) hl (Nat.le_of_ble_eq_true rfl) rfl (fun ls hl => ?_)
  refine lv_aload_n X.1 X.2.1 (dk T_L_law_5 32 rfl) rfl (lv_at hl 3 rfl) ?_
  refine lv_aload_n X.1 X.2.1 (dk T_L_law_5 33 rfl) rfl (lv_at hl 1 rfl) ?_
  refine lv_iload X.1 X.2.1 (dk T_L_law_5 34 rfl) (lv_at hl 6 rfl) ?_
  refine lv_iconst (v := 1) X.1 X.2.1 (dk T_L_law_5 35 rfl) ic_1 ?_
  refine lv_iadd X.1 X.2.1 (dk T_L_law_5 36 rfl) ?_
  obtain ⟨g87, h⟩ := gd h
  refine va_sld X.1 X.2.1 hX hbl hbA Y.2 (inp g87) (dk T_L_law_5 37 rfl) ?_
  refine lv_aload_n X.1 X.2.1 (dk T_L_law_5 38 rfl) rfl (lv_at hl 1 rfl) ?_
  refine lv_iload X.1 X.2.1 (dk T_L_law_5 39 rfl) (lv_at hl 6 rfl) ?_
  refine lv_iconst (v := 2) X.1 X.2.1 (dk T_L_law_5 40 rfl) ic_2 ?_
  refine lv_iadd X.1 X.2.1 (dk T_L_law_5 41 rfl) ?_
  obtain ⟨g88, h⟩ := gd h
  refine va_sld X.1 X.2.1 hX hbl hbA Y.2 (inp g88) (dk T_L_law_5 42 rfl) ?_
  obtain ⟨q89, hq89, h⟩ := bs h
  refine gvIx (rest := []) X Y (c_X11_turned (xs (x5 + 1).toNatClampNeg) (xs (x5 + 2).toNatClampNeg) q86.2 hq89) cb_L_124 rfl hl.1 rfl rfl (Nat.le_of_ble_eq_true rfl) ⟨(Nat.le_of_ble_eq_true rfl), (Nat.le_of_ble_eq_true rfl)⟩ ⟨law_le hkc (by decide), law_le hnc (by decide)⟩ (dk T_L_law_5 43 rfl) (fun H locs Y => ?_)
  refine lv_istore (lv' := [(7, .int (q89.1)), (6, .int (q86.1)), (0, .ref (b)), (1, .ref (g.2.2 (0))), (2, .ref (g.2.2 (101))), (3, .ref (g.2.2 (122))), (4, .ref (g.2.2 (123))), (5, .int (x5))]) X.1 X.2.1 (dk T_L_law_5 44 rfl) hl (Nat.le_of_ble_eq_true rfl) rfl (fun ls hl => ?_)
  refine lv_aload_n X.1 X.2.1 (dk T_L_law_5 45 rfl) rfl (lv_at hl 4 rfl) ?_
  obtain ⟨q90, hq90, h⟩ := bs h
  refine gvIx (rest := []) X Y (c_X11_thrown q89.2 hq90) cb_L_102 rfl hl.1 rfl rfl (Nat.le_of_ble_eq_true rfl) ⟨(Nat.le_of_ble_eq_true rfl), (Nat.le_of_ble_eq_true rfl)⟩ ⟨law_le hkc (by decide), law_le hnc (by decide)⟩ (dk T_L_law_5 46 rfl) (fun H locs Y => ?_)
  refine lv_iload X.1 X.2.1 (dk T_L_law_5 47 rfl) (lv_at hl 1 rfl) ?_
  refine lv_icmp_eq (tgt := 660) X.1 X.2.1 (dk T_L_law_5 48 rfl) rfl (fun c91 => ?_) (fun c91 => ?_)
  · replace h := ipos c91 h
    refine lv_iload X.1 X.2.1 (dk T_L_law_5 51 rfl) (lv_at hl 1 rfl) ?_
    refine lv_if_ne (tgt := 677) X.1 X.2.1 (dk T_L_law_5 52 rfl) rfl (fun c92 => ?_) (fun c92 => ?_)
    · replace h := ineg c92 h
      exact w_L_law_j677 X TX hst hX hbl hbA hkc hnc x5 q89.2 KB KX Y (lv_sub hl [2, 3, 4, 5, 6, 7] rfl) h
    · replace h := ipos c92 h
      refine lv_aload_n X.1 X.2.1 (dk T_L_law_5 53 rfl) rfl (lv_at hl 5 rfl) ?_
      refine lv_iconst (v := 0) X.1 X.2.1 (dk T_L_law_5 54 rfl) ic_0 ?_
      obtain ⟨g93, h⟩ := gd h
      refine gll X Y rfl (inp g93) (dk T_L_law_5 55 rfl) ?_
      refine lv_iload X.1 X.2.1 (dk T_L_law_5 56 rfl) (lv_at hl 0 rfl) ?_
      refine lv_i2l X.1 X.2.1 (dk T_L_law_5 57 rfl) rfl ?_
      refine W.lcmp X.1 X.2.1 (dk T_L_law_5 58 rfl) ?_
      refine lv_if_eq (tgt := 677) X.1 X.2.1 (dk T_L_law_5 59 rfl) rfl (fun c94 => ?_) (fun c94 => ?_)
      · replace h := ipos c94 h
        exact w_L_law_j677 X TX hst hX hbl hbA hkc hnc x5 q89.2 KB KX Y (lv_sub hl [2, 3, 4, 5, 6, 7] rfl) h
      · replace h := ineg c94 h
        cases h
  · replace h := ineg c91 h
    cases h
def f_L_law_j781 (xs : Nat → Int32) (L : Nat) (x5 : Int32) (σ : St) : Option ((Int32 × St) ⊕ St) :=
  f_L_law_j1667 xs L x5 σ
set_option maxHeartbeats 4000000 in
set_option maxRecDepth 100000 in
theorem w_L_law_j781 (X : Cx g RL cL_law 8 (some .boolean) p s m args meth c) (TX : TXs g (GA g s.heap.size) s s.heap) (hst : l.stackTraces = false) {b L : Nat} {xs : Nat → Int32} (hX : va_X b L xs s s.heap) (hbl : b < s.heap.size) (hbA : ¬ GA g s.heap.size b) {kc nc : Nat} (hkc : kc + 4 ≤ room_1.cells) (hnc : nc + 24 ≤ room_1.slots) (x5 : Int32) (σ : St) {w : (Int32 × St) ⊕ St} (KB : ∀ (v0_ : Int32) (v1_ : St), w = .inl (v0_, v1_) → ∀ (H : Heap) (locs : List Loc) (ls : Array Slot), Wd g s v1_ H locs → lv_has ls 8 [(0, .ref (b)), (1, .ref (g.2.2 (0))), (2, .ref (g.2.2 (101))), (3, .ref (g.2.2 (122))), (4, .ref (g.2.2 (123))), (5, .int (v0_))] → W p l e room_1 s m args below meth c H locs (kc + 4) (nc + 24) Q (F0 m 28 ls [])) (KX : ∀ (v : St), w = .inr v → ∀ (H : Heap) (locs : List Loc) (ls : Array Slot), Wd g s v H locs → lv_has ls 8 [(0, .ref (b))] → W p l e room_1 s m args below meth c H locs (kc) (nc) Q (F0 m 1673 ls [])) {H : Heap} {locs : List Loc} {ls : Array Slot} (Y : Wd g s σ H locs) (hl : lv_has ls 8 [(0, .ref (b)), (1, .ref (g.2.2 (0))), (2, .ref (g.2.2 (101))), (3, .ref (g.2.2 (122))), (4, .ref (g.2.2 (123))), (5, .int (x5))]) (h : f_L_law_j781 xs L x5 σ = some w) : W p l e room_1 s m args below meth c H locs (kc + 4) (nc + 24) Q (F0 m 781 ls []) := by
  unfold f_L_law_j781 at h
  refine lv_goto (tgt := 1667) X.1 X.2.1 (dk T_L_law_7 9 rfl) rfl ?_
  exact w_L_law_j1667 X TX hst hX hbl hbA hkc hnc x5 σ KB KX Y (lv_sub hl [0, 1, 2, 3, 4, 5] rfl) h
def f_L_law_j680 (xs : Nat → Int32) (L : Nat) (x5 : Int32) (σ : St) : Option ((Int32 × St) ⊕ St) :=
  chk (inb (x5 + 1) L) (chk (inb (x5 + 2) L) (chk (inb (x5 + 3) L) (chk (inb (x5 + 4) L) (chk (inb (x5 + 5) L) ((f_L_place (xs (x5 + 1).toNatClampNeg) (xs (x5 + 2).toNatClampNeg) (xs (x5 + 3).toNatClampNeg) (xs (x5 + 4).toNatClampNeg) (xs (x5 + 5).toNatClampNeg) σ).bind fun q101 => chk (inb (x5 + 1) L) (chk (inb (x5 + 2) L) (chk (inb (x5 + 3) L) (chk (inb (x5 + 4) L) (chk (inb (x5 + 5) L) ((f_X11_place (xs (x5 + 1).toNatClampNeg) (xs (x5 + 2).toNatClampNeg) (xs (x5 + 3).toNatClampNeg) (xs (x5 + 4).toNatClampNeg) (xs (x5 + 5).toNatClampNeg) q101.2).bind fun q107 => (f_X11_thrown q107.2).bind fun q108 => if q108 = q101.1 then if q101.1 = 0 then chk (inb 0 1) (if (lg_cmp ((q107.2 122 (0 : Int32).toNatClampNeg).toInt64) q107.1.toInt64) = 0 then f_L_law_j781 xs L x5 q107.2 else none) else f_L_law_j781 xs L x5 q107.2 else none))))))))))
set_option maxHeartbeats 4000000 in
set_option maxRecDepth 100000 in
theorem w_L_law_j680 (X : Cx g RL cL_law 8 (some .boolean) p s m args meth c) (TX : TXs g (GA g s.heap.size) s s.heap) (hst : l.stackTraces = false) {b L : Nat} {xs : Nat → Int32} (hX : va_X b L xs s s.heap) (hbl : b < s.heap.size) (hbA : ¬ GA g s.heap.size b) {kc nc : Nat} (hkc : kc + 4 ≤ room_1.cells) (hnc : nc + 24 ≤ room_1.slots) (x5 : Int32) (σ : St) {w : (Int32 × St) ⊕ St} (KB : ∀ (v0_ : Int32) (v1_ : St), w = .inl (v0_, v1_) → ∀ (H : Heap) (locs : List Loc) (ls : Array Slot), Wd g s v1_ H locs → lv_has ls 8 [(0, .ref (b)), (1, .ref (g.2.2 (0))), (2, .ref (g.2.2 (101))), (3, .ref (g.2.2 (122))), (4, .ref (g.2.2 (123))), (5, .int (v0_))] → W p l e room_1 s m args below meth c H locs (kc + 4) (nc + 24) Q (F0 m 28 ls [])) (KX : ∀ (v : St), w = .inr v → ∀ (H : Heap) (locs : List Loc) (ls : Array Slot), Wd g s v H locs → lv_has ls 8 [(0, .ref (b))] → W p l e room_1 s m args below meth c H locs (kc) (nc) Q (F0 m 1673 ls [])) {H : Heap} {locs : List Loc} {ls : Array Slot} (Y : Wd g s σ H locs) (hl : lv_has ls 8 [(0, .ref (b)), (1, .ref (g.2.2 (0))), (2, .ref (g.2.2 (101))), (3, .ref (g.2.2 (122))), (4, .ref (g.2.2 (123))), (5, .int (x5))]) (h : f_L_law_j680 xs L x5 σ = some w) : W p l e room_1 s m args below meth c H locs (kc) (nc) Q (F0 m 680 ls []) := by
  unfold f_L_law_j680 at h
  refine lv_aload_n X.1 X.2.1 (dk T_L_law_5 63 rfl) rfl (lv_at hl 1 rfl) ?_
  refine lv_aload_n X.1 X.2.1 (dk T_L_law_6 0 rfl) rfl (lv_at hl 0 rfl) ?_
  refine lv_iload X.1 X.2.1 (dk T_L_law_6 1 rfl) (lv_at hl 5 rfl) ?_
  refine lv_iconst (v := 1) X.1 X.2.1 (dk T_L_law_6 2 rfl) ic_1 ?_
  refine lv_iadd X.1 X.2.1 (dk T_L_law_6 3 rfl) ?_
  obtain ⟨g96, h⟩ := gd h
  refine va_sld X.1 X.2.1 hX hbl hbA Y.2 (inp g96) (dk T_L_law_6 4 rfl) ?_
  refine lv_aload_n X.1 X.2.1 (dk T_L_law_6 5 rfl) rfl (lv_at hl 0 rfl) ?_
  refine lv_iload X.1 X.2.1 (dk T_L_law_6 6 rfl) (lv_at hl 5 rfl) ?_
  refine lv_iconst (v := 2) X.1 X.2.1 (dk T_L_law_6 7 rfl) ic_2 ?_
  refine lv_iadd X.1 X.2.1 (dk T_L_law_6 8 rfl) ?_
  obtain ⟨g97, h⟩ := gd h
  refine va_sld X.1 X.2.1 hX hbl hbA Y.2 (inp g97) (dk T_L_law_6 9 rfl) ?_
  refine lv_aload_n X.1 X.2.1 (dk T_L_law_6 10 rfl) rfl (lv_at hl 0 rfl) ?_
  refine lv_iload X.1 X.2.1 (dk T_L_law_6 11 rfl) (lv_at hl 5 rfl) ?_
  refine lv_iconst (v := 3) X.1 X.2.1 (dk T_L_law_6 12 rfl) ic_3 ?_
  refine lv_iadd X.1 X.2.1 (dk T_L_law_6 13 rfl) ?_
  obtain ⟨g98, h⟩ := gd h
  refine va_sld X.1 X.2.1 hX hbl hbA Y.2 (inp g98) (dk T_L_law_6 14 rfl) ?_
  refine lv_aload_n X.1 X.2.1 (dk T_L_law_6 15 rfl) rfl (lv_at hl 0 rfl) ?_
  refine lv_iload X.1 X.2.1 (dk T_L_law_6 16 rfl) (lv_at hl 5 rfl) ?_
  refine lv_iconst (v := 4) X.1 X.2.1 (dk T_L_law_6 17 rfl) ic_4 ?_
  refine lv_iadd X.1 X.2.1 (dk T_L_law_6 18 rfl) ?_
  obtain ⟨g99, h⟩ := gd h
  refine va_sld X.1 X.2.1 hX hbl hbA Y.2 (inp g99) (dk T_L_law_6 19 rfl) ?_
  refine lv_aload_n X.1 X.2.1 (dk T_L_law_6 20 rfl) rfl (lv_at hl 0 rfl) ?_
  refine lv_iload X.1 X.2.1 (dk T_L_law_6 21 rfl) (lv_at hl 5 rfl) ?_
  refine lv_iconst (v := 5) X.1 X.2.1 (dk T_L_law_6 22 rfl) ic_5 ?_
  refine lv_iadd X.1 X.2.1 (dk T_L_law_6 23 rfl) ?_
  obtain ⟨g100, h⟩ := gd h
  refine va_sld X.1 X.2.1 hX hbl hbA Y.2 (inp g100) (dk T_L_law_6 24 rfl) ?_
  refine lv_aload_n X.1 X.2.1 (dk T_L_law_6 25 rfl) rfl (lv_at hl 3 rfl) ?_
  obtain ⟨q101, hq101, h⟩ := bs h
  refine gsH (rest := []) X TX hst Y (c_L_place (xs (x5 + 1).toNatClampNeg) (xs (x5 + 2).toNatClampNeg) (xs (x5 + 3).toNatClampNeg) (xs (x5 + 4).toNatClampNeg) (xs (x5 + 5).toNatClampNeg) σ hq101) cb_L_125 hl.1 rfl rfl (Nat.le_of_ble_eq_true rfl) ⟨(Nat.le_of_ble_eq_true rfl), (Nat.le_of_ble_eq_true rfl)⟩ ⟨law_le hkc (by decide), law_le hnc (by decide)⟩ (dk T_L_law_6 26 rfl) (fun H locs Y => ?_)
  refine lv_istore (lv' := [(6, .int (q101.1)), (0, .ref (b)), (1, .ref (g.2.2 (0))), (2, .ref (g.2.2 (101))), (3, .ref (g.2.2 (122))), (4, .ref (g.2.2 (123))), (5, .int (x5))]) X.1 X.2.1 (dk T_L_law_6 27 rfl) hl (Nat.le_of_ble_eq_true rfl) rfl (fun ls hl => ?_)
  refine lv_aload_n X.1 X.2.1 (dk T_L_law_6 28 rfl) rfl (lv_at hl 3 rfl) ?_
  refine lv_aload_n X.1 X.2.1 (dk T_L_law_6 29 rfl) rfl (lv_at hl 1 rfl) ?_
  refine lv_iload X.1 X.2.1 (dk T_L_law_6 30 rfl) (lv_at hl 6 rfl) ?_
  refine lv_iconst (v := 1) X.1 X.2.1 (dk T_L_law_6 31 rfl) ic_1 ?_
  refine lv_iadd X.1 X.2.1 (dk T_L_law_6 32 rfl) ?_
  obtain ⟨g102, h⟩ := gd h
  refine va_sld X.1 X.2.1 hX hbl hbA Y.2 (inp g102) (dk T_L_law_6 33 rfl) ?_
  refine lv_aload_n X.1 X.2.1 (dk T_L_law_6 34 rfl) rfl (lv_at hl 1 rfl) ?_
  refine lv_iload X.1 X.2.1 (dk T_L_law_6 35 rfl) (lv_at hl 6 rfl) ?_
  refine lv_iconst (v := 2) X.1 X.2.1 (dk T_L_law_6 36 rfl) ic_2 ?_
  refine lv_iadd X.1 X.2.1 (dk T_L_law_6 37 rfl) ?_
  obtain ⟨g103, h⟩ := gd h
  refine va_sld X.1 X.2.1 hX hbl hbA Y.2 (inp g103) (dk T_L_law_6 38 rfl) ?_
  refine lv_aload_n X.1 X.2.1 (dk T_L_law_6 39 rfl) rfl (lv_at hl 1 rfl) ?_
  refine lv_iload X.1 X.2.1 (dk T_L_law_6 40 rfl) (lv_at hl 6 rfl) ?_
  refine lv_iconst (v := 3) X.1 X.2.1 (dk T_L_law_6 41 rfl) ic_3 ?_
  refine lv_iadd X.1 X.2.1 (dk T_L_law_6 42 rfl) ?_
  obtain ⟨g104, h⟩ := gd h
  refine va_sld X.1 X.2.1 hX hbl hbA Y.2 (inp g104) (dk T_L_law_6 43 rfl) ?_
  refine lv_aload_n X.1 X.2.1 (dk T_L_law_6 44 rfl) rfl (lv_at hl 1 rfl) ?_
  refine lv_iload X.1 X.2.1 (dk T_L_law_6 45 rfl) (lv_at hl 6 rfl) ?_
  refine lv_iconst (v := 4) X.1 X.2.1 (dk T_L_law_6 46 rfl) ic_4 ?_
  refine lv_iadd X.1 X.2.1 (dk T_L_law_6 47 rfl) ?_
  obtain ⟨g105, h⟩ := gd h
  refine va_sld X.1 X.2.1 hX hbl hbA Y.2 (inp g105) (dk T_L_law_6 48 rfl) ?_
  refine lv_aload_n X.1 X.2.1 (dk T_L_law_6 49 rfl) rfl (lv_at hl 1 rfl) ?_
  refine lv_iload X.1 X.2.1 (dk T_L_law_6 50 rfl) (lv_at hl 6 rfl) ?_
  refine lv_iconst (v := 5) X.1 X.2.1 (dk T_L_law_6 51 rfl) ic_5 ?_
  refine lv_iadd X.1 X.2.1 (dk T_L_law_6 52 rfl) ?_
  obtain ⟨g106, h⟩ := gd h
  refine va_sld X.1 X.2.1 hX hbl hbA Y.2 (inp g106) (dk T_L_law_6 53 rfl) ?_
  obtain ⟨q107, hq107, h⟩ := bs h
  refine gvIx (rest := []) X Y (c_X11_place (xs (x5 + 1).toNatClampNeg) (xs (x5 + 2).toNatClampNeg) (xs (x5 + 3).toNatClampNeg) (xs (x5 + 4).toNatClampNeg) (xs (x5 + 5).toNatClampNeg) q101.2 hq107) cb_L_127 rfl hl.1 rfl rfl (Nat.le_of_ble_eq_true rfl) ⟨(Nat.le_of_ble_eq_true rfl), (Nat.le_of_ble_eq_true rfl)⟩ ⟨law_le hkc (by decide), law_le hnc (by decide)⟩ (dk T_L_law_6 54 rfl) (fun H locs Y => ?_)
  refine lv_istore (lv' := [(7, .int (q107.1)), (6, .int (q101.1)), (0, .ref (b)), (1, .ref (g.2.2 (0))), (2, .ref (g.2.2 (101))), (3, .ref (g.2.2 (122))), (4, .ref (g.2.2 (123))), (5, .int (x5))]) X.1 X.2.1 (dk T_L_law_6 55 rfl) hl (Nat.le_of_ble_eq_true rfl) rfl (fun ls hl => ?_)
  refine lv_aload_n X.1 X.2.1 (dk T_L_law_6 56 rfl) rfl (lv_at hl 4 rfl) ?_
  obtain ⟨q108, hq108, h⟩ := bs h
  refine gvIx (rest := []) X Y (c_X11_thrown q107.2 hq108) cb_L_102 rfl hl.1 rfl rfl (Nat.le_of_ble_eq_true rfl) ⟨(Nat.le_of_ble_eq_true rfl), (Nat.le_of_ble_eq_true rfl)⟩ ⟨law_le hkc (by decide), law_le hnc (by decide)⟩ (dk T_L_law_6 57 rfl) (fun H locs Y => ?_)
  refine lv_iload X.1 X.2.1 (dk T_L_law_6 58 rfl) (lv_at hl 1 rfl) ?_
  refine lv_icmp_eq (tgt := 764) X.1 X.2.1 (dk T_L_law_6 59 rfl) rfl (fun c109 => ?_) (fun c109 => ?_)
  · replace h := ipos c109 h
    refine lv_iload X.1 X.2.1 (dk T_L_law_6 62 rfl) (lv_at hl 1 rfl) ?_
    refine lv_if_ne (tgt := 781) X.1 X.2.1 (dk T_L_law_6 63 rfl) rfl (fun c110 => ?_) (fun c110 => ?_)
    · replace h := ineg c110 h
      exact w_L_law_j781 X TX hst hX hbl hbA hkc hnc x5 q107.2 KB KX Y (lv_sub hl [2, 3, 4, 5, 6, 7] rfl) h
    · replace h := ipos c110 h
      refine lv_aload_n X.1 X.2.1 (dk T_L_law_7 0 rfl) rfl (lv_at hl 5 rfl) ?_
      refine lv_iconst (v := 0) X.1 X.2.1 (dk T_L_law_7 1 rfl) ic_0 ?_
      obtain ⟨g111, h⟩ := gd h
      refine gll X Y rfl (inp g111) (dk T_L_law_7 2 rfl) ?_
      refine lv_iload X.1 X.2.1 (dk T_L_law_7 3 rfl) (lv_at hl 0 rfl) ?_
      refine lv_i2l X.1 X.2.1 (dk T_L_law_7 4 rfl) rfl ?_
      refine W.lcmp X.1 X.2.1 (dk T_L_law_7 5 rfl) ?_
      refine lv_if_eq (tgt := 781) X.1 X.2.1 (dk T_L_law_7 6 rfl) rfl (fun c112 => ?_) (fun c112 => ?_)
      · replace h := ipos c112 h
        exact w_L_law_j781 X TX hst hX hbl hbA hkc hnc x5 q107.2 KB KX Y (lv_sub hl [2, 3, 4, 5, 6, 7] rfl) h
      · replace h := ineg c112 h
        cases h
  · replace h := ineg c109 h
    cases h
def f_L_law_j837 (xs : Nat → Int32) (L : Nat) (x5 : Int32) (σ : St) : Option ((Int32 × St) ⊕ St) :=
  f_L_law_j1667 xs L x5 σ
set_option maxHeartbeats 4000000 in
set_option maxRecDepth 100000 in
theorem w_L_law_j837 (X : Cx g RL cL_law 8 (some .boolean) p s m args meth c) (TX : TXs g (GA g s.heap.size) s s.heap) (hst : l.stackTraces = false) {b L : Nat} {xs : Nat → Int32} (hX : va_X b L xs s s.heap) (hbl : b < s.heap.size) (hbA : ¬ GA g s.heap.size b) {kc nc : Nat} (hkc : kc + 4 ≤ room_1.cells) (hnc : nc + 24 ≤ room_1.slots) (x5 : Int32) (σ : St) {w : (Int32 × St) ⊕ St} (KB : ∀ (v0_ : Int32) (v1_ : St), w = .inl (v0_, v1_) → ∀ (H : Heap) (locs : List Loc) (ls : Array Slot), Wd g s v1_ H locs → lv_has ls 8 [(0, .ref (b)), (1, .ref (g.2.2 (0))), (2, .ref (g.2.2 (101))), (3, .ref (g.2.2 (122))), (4, .ref (g.2.2 (123))), (5, .int (v0_))] → W p l e room_1 s m args below meth c H locs (kc + 4) (nc + 24) Q (F0 m 28 ls [])) (KX : ∀ (v : St), w = .inr v → ∀ (H : Heap) (locs : List Loc) (ls : Array Slot), Wd g s v H locs → lv_has ls 8 [(0, .ref (b))] → W p l e room_1 s m args below meth c H locs (kc) (nc) Q (F0 m 1673 ls [])) {H : Heap} {locs : List Loc} {ls : Array Slot} (Y : Wd g s σ H locs) (hl : lv_has ls 8 [(0, .ref (b)), (1, .ref (g.2.2 (0))), (2, .ref (g.2.2 (101))), (3, .ref (g.2.2 (122))), (4, .ref (g.2.2 (123))), (5, .int (x5))]) (h : f_L_law_j837 xs L x5 σ = some w) : W p l e room_1 s m args below meth c H locs (kc + 1) (nc + 6) Q (F0 m 837 ls []) := by
  unfold f_L_law_j837 at h
  refine lv_goto (tgt := 1667) X.1 X.2.1 (dk T_L_law_7 44 rfl) rfl ?_
  refine W.widen (k := kc + 4) (n := nc + 24) (by omega) (by omega) ?_
  exact w_L_law_j1667 X TX hst hX hbl hbA hkc hnc x5 σ KB KX Y (lv_sub hl [0, 1, 2, 3, 4, 5] rfl) h
def f_L_law_j784 (xs : Nat → Int32) (L : Nat) (x5 : Int32) (σ : St) : Option ((Int32 × St) ⊕ St) :=
  chk (inb (x5 + 1) L) ((f_L_take (xs (x5 + 1).toNatClampNeg) σ).bind fun q115 => chk (inb (x5 + 1) L) ((f_X11_take (xs (x5 + 1).toNatClampNeg) q115.2).bind fun q117 => (f_X11_thrown q117.2).bind fun q118 => if q118 = q115.1 then if q115.1 = 0 then chk (inb 0 1) (if (lg_cmp ((q117.2 122 (0 : Int32).toNatClampNeg).toInt64) q117.1.toInt64) = 0 then f_L_law_j837 xs L x5 q117.2 else none) else f_L_law_j837 xs L x5 q117.2 else none))
set_option maxHeartbeats 4000000 in
set_option maxRecDepth 100000 in
theorem w_L_law_j784 (X : Cx g RL cL_law 8 (some .boolean) p s m args meth c) (TX : TXs g (GA g s.heap.size) s s.heap) (hst : l.stackTraces = false) {b L : Nat} {xs : Nat → Int32} (hX : va_X b L xs s s.heap) (hbl : b < s.heap.size) (hbA : ¬ GA g s.heap.size b) {kc nc : Nat} (hkc : kc + 4 ≤ room_1.cells) (hnc : nc + 24 ≤ room_1.slots) (x5 : Int32) (σ : St) {w : (Int32 × St) ⊕ St} (KB : ∀ (v0_ : Int32) (v1_ : St), w = .inl (v0_, v1_) → ∀ (H : Heap) (locs : List Loc) (ls : Array Slot), Wd g s v1_ H locs → lv_has ls 8 [(0, .ref (b)), (1, .ref (g.2.2 (0))), (2, .ref (g.2.2 (101))), (3, .ref (g.2.2 (122))), (4, .ref (g.2.2 (123))), (5, .int (v0_))] → W p l e room_1 s m args below meth c H locs (kc + 4) (nc + 24) Q (F0 m 28 ls [])) (KX : ∀ (v : St), w = .inr v → ∀ (H : Heap) (locs : List Loc) (ls : Array Slot), Wd g s v H locs → lv_has ls 8 [(0, .ref (b))] → W p l e room_1 s m args below meth c H locs (kc) (nc) Q (F0 m 1673 ls [])) {H : Heap} {locs : List Loc} {ls : Array Slot} (Y : Wd g s σ H locs) (hl : lv_has ls 8 [(0, .ref (b)), (1, .ref (g.2.2 (0))), (2, .ref (g.2.2 (101))), (3, .ref (g.2.2 (122))), (4, .ref (g.2.2 (123))), (5, .int (x5))]) (h : f_L_law_j784 xs L x5 σ = some w) : W p l e room_1 s m args below meth c H locs (kc) (nc) Q (F0 m 784 ls []) := by
  unfold f_L_law_j784 at h
  refine lv_aload_n X.1 X.2.1 (dk T_L_law_7 10 rfl) rfl (lv_at hl 1 rfl) ?_
  refine lv_aload_n X.1 X.2.1 (dk T_L_law_7 11 rfl) rfl (lv_at hl 0 rfl) ?_
  refine lv_iload X.1 X.2.1 (dk T_L_law_7 12 rfl) (lv_at hl 5 rfl) ?_
  refine lv_iconst (v := 1) X.1 X.2.1 (dk T_L_law_7 13 rfl) ic_1 ?_
  refine lv_iadd X.1 X.2.1 (dk T_L_law_7 14 rfl) ?_
  obtain ⟨g114, h⟩ := gd h
  refine va_sld X.1 X.2.1 hX hbl hbA Y.2 (inp g114) (dk T_L_law_7 15 rfl) ?_
  refine lv_aload_n X.1 X.2.1 (dk T_L_law_7 16 rfl) rfl (lv_at hl 3 rfl) ?_
  obtain ⟨q115, hq115, h⟩ := bs h
  refine gsH (rest := []) X TX hst Y (c_L_take (xs (x5 + 1).toNatClampNeg) σ hq115) cb_L_128 hl.1 rfl rfl (Nat.le_of_ble_eq_true rfl) ⟨(Nat.le_of_ble_eq_true rfl), (Nat.le_of_ble_eq_true rfl)⟩ ⟨law_le hkc (by decide), law_le hnc (by decide)⟩ (dk T_L_law_7 17 rfl) (fun H locs Y => ?_)
  refine lv_istore (lv' := [(6, .int (q115.1)), (0, .ref (b)), (1, .ref (g.2.2 (0))), (2, .ref (g.2.2 (101))), (3, .ref (g.2.2 (122))), (4, .ref (g.2.2 (123))), (5, .int (x5))]) X.1 X.2.1 (dk T_L_law_7 18 rfl) hl (Nat.le_of_ble_eq_true rfl) rfl (fun ls hl => ?_)
  refine lv_aload_n X.1 X.2.1 (dk T_L_law_7 19 rfl) rfl (lv_at hl 3 rfl) ?_
  refine lv_aload_n X.1 X.2.1 (dk T_L_law_7 20 rfl) rfl (lv_at hl 1 rfl) ?_
  refine lv_iload X.1 X.2.1 (dk T_L_law_7 21 rfl) (lv_at hl 6 rfl) ?_
  refine lv_iconst (v := 1) X.1 X.2.1 (dk T_L_law_7 22 rfl) ic_1 ?_
  refine lv_iadd X.1 X.2.1 (dk T_L_law_7 23 rfl) ?_
  obtain ⟨g116, h⟩ := gd h
  refine va_sld X.1 X.2.1 hX hbl hbA Y.2 (inp g116) (dk T_L_law_7 24 rfl) ?_
  obtain ⟨q117, hq117, h⟩ := bs h
  refine gvIx (rest := []) X Y (c_X11_take (xs (x5 + 1).toNatClampNeg) q115.2 hq117) cb_L_131 rfl hl.1 rfl rfl (Nat.le_of_ble_eq_true rfl) ⟨(Nat.le_of_ble_eq_true rfl), (Nat.le_of_ble_eq_true rfl)⟩ ⟨law_le hkc (by decide), law_le hnc (by decide)⟩ (dk T_L_law_7 25 rfl) (fun H locs Y => ?_)
  refine lv_istore (lv' := [(7, .int (q117.1)), (6, .int (q115.1)), (0, .ref (b)), (1, .ref (g.2.2 (0))), (2, .ref (g.2.2 (101))), (3, .ref (g.2.2 (122))), (4, .ref (g.2.2 (123))), (5, .int (x5))]) X.1 X.2.1 (dk T_L_law_7 26 rfl) hl (Nat.le_of_ble_eq_true rfl) rfl (fun ls hl => ?_)
  refine lv_aload_n X.1 X.2.1 (dk T_L_law_7 27 rfl) rfl (lv_at hl 4 rfl) ?_
  obtain ⟨q118, hq118, h⟩ := bs h
  refine gvIx (rest := []) X Y (c_X11_thrown q117.2 hq118) cb_L_102 rfl hl.1 rfl rfl (Nat.le_of_ble_eq_true rfl) ⟨(Nat.le_of_ble_eq_true rfl), (Nat.le_of_ble_eq_true rfl)⟩ ⟨law_le hkc (by decide), law_le hnc (by decide)⟩ (dk T_L_law_7 28 rfl) (fun H locs Y => ?_)
  refine lv_iload X.1 X.2.1 (dk T_L_law_7 29 rfl) (lv_at hl 1 rfl) ?_
  refine lv_icmp_eq (tgt := 820) X.1 X.2.1 (dk T_L_law_7 30 rfl) rfl (fun c119 => ?_) (fun c119 => ?_)
  · replace h := ipos c119 h
    refine lv_iload X.1 X.2.1 (dk T_L_law_7 33 rfl) (lv_at hl 1 rfl) ?_
    refine lv_if_ne (tgt := 837) X.1 X.2.1 (dk T_L_law_7 34 rfl) rfl (fun c120 => ?_) (fun c120 => ?_)
    · replace h := ineg c120 h
      exact w_L_law_j837 X TX hst hX hbl hbA hkc hnc x5 q117.2 KB KX Y (lv_sub hl [2, 3, 4, 5, 6, 7] rfl) h
    · replace h := ipos c120 h
      refine lv_aload_n X.1 X.2.1 (dk T_L_law_7 35 rfl) rfl (lv_at hl 5 rfl) ?_
      refine lv_iconst (v := 0) X.1 X.2.1 (dk T_L_law_7 36 rfl) ic_0 ?_
      obtain ⟨g121, h⟩ := gd h
      refine gll X Y rfl (inp g121) (dk T_L_law_7 37 rfl) ?_
      refine lv_iload X.1 X.2.1 (dk T_L_law_7 38 rfl) (lv_at hl 0 rfl) ?_
      refine lv_i2l X.1 X.2.1 (dk T_L_law_7 39 rfl) rfl ?_
      refine W.lcmp X.1 X.2.1 (dk T_L_law_7 40 rfl) ?_
      refine lv_if_eq (tgt := 837) X.1 X.2.1 (dk T_L_law_7 41 rfl) rfl (fun c122 => ?_) (fun c122 => ?_)
      · replace h := ipos c122 h
        exact w_L_law_j837 X TX hst hX hbl hbA hkc hnc x5 q117.2 KB KX Y (lv_sub hl [2, 3, 4, 5, 6, 7] rfl) h
      · replace h := ineg c122 h
        cases h
  · replace h := ineg c119 h
    cases h
def f_L_law_j905 (xs : Nat → Int32) (L : Nat) (x5 : Int32) (σ : St) : Option ((Int32 × St) ⊕ St) :=
  f_L_law_j1667 xs L x5 σ
set_option maxHeartbeats 4000000 in
set_option maxRecDepth 100000 in
theorem w_L_law_j905 (X : Cx g RL cL_law 8 (some .boolean) p s m args meth c) (TX : TXs g (GA g s.heap.size) s s.heap) (hst : l.stackTraces = false) {b L : Nat} {xs : Nat → Int32} (hX : va_X b L xs s s.heap) (hbl : b < s.heap.size) (hbA : ¬ GA g s.heap.size b) {kc nc : Nat} (hkc : kc + 4 ≤ room_1.cells) (hnc : nc + 24 ≤ room_1.slots) (x5 : Int32) (σ : St) {w : (Int32 × St) ⊕ St} (KB : ∀ (v0_ : Int32) (v1_ : St), w = .inl (v0_, v1_) → ∀ (H : Heap) (locs : List Loc) (ls : Array Slot), Wd g s v1_ H locs → lv_has ls 8 [(0, .ref (b)), (1, .ref (g.2.2 (0))), (2, .ref (g.2.2 (101))), (3, .ref (g.2.2 (122))), (4, .ref (g.2.2 (123))), (5, .int (v0_))] → W p l e room_1 s m args below meth c H locs (kc + 4) (nc + 24) Q (F0 m 28 ls [])) (KX : ∀ (v : St), w = .inr v → ∀ (H : Heap) (locs : List Loc) (ls : Array Slot), Wd g s v H locs → lv_has ls 8 [(0, .ref (b))] → W p l e room_1 s m args below meth c H locs (kc) (nc) Q (F0 m 1673 ls [])) {H : Heap} {locs : List Loc} {ls : Array Slot} (Y : Wd g s σ H locs) (hl : lv_has ls 8 [(0, .ref (b)), (1, .ref (g.2.2 (0))), (2, .ref (g.2.2 (101))), (3, .ref (g.2.2 (122))), (4, .ref (g.2.2 (123))), (5, .int (x5))]) (h : f_L_law_j905 xs L x5 σ = some w) : W p l e room_1 s m args below meth c H locs (kc + 2) (nc + 12) Q (F0 m 905 ls []) := by
  unfold f_L_law_j905 at h
  refine lv_goto (tgt := 1667) X.1 X.2.1 (dk T_L_law_8 25 rfl) rfl ?_
  refine W.widen (k := kc + 4) (n := nc + 24) (by omega) (by omega) ?_
  exact w_L_law_j1667 X TX hst hX hbl hbA hkc hnc x5 σ KB KX Y (lv_sub hl [0, 1, 2, 3, 4, 5] rfl) h
def f_L_law_j840 (xs : Nat → Int32) (L : Nat) (x5 : Int32) (σ : St) : Option ((Int32 × St) ⊕ St) :=
  chk (inb (x5 + 1) L) (chk (inb (x5 + 2) L) ((f_L_part (xs (x5 + 1).toNatClampNeg) (xs (x5 + 2).toNatClampNeg) σ).bind fun q126 => chk (inb (x5 + 1) L) (chk (inb (x5 + 2) L) ((f_X11_part (xs (x5 + 1).toNatClampNeg) (xs (x5 + 2).toNatClampNeg) q126.2).bind fun q129 => (f_X11_thrown q129.2).bind fun q130 => if q130 = q126.1 then if q126.1 = 0 then chk (inb 0 1) (if (lg_cmp ((q129.2 122 (0 : Int32).toNatClampNeg).toInt64) q129.1.toInt64) = 0 then f_L_law_j905 xs L x5 q129.2 else none) else f_L_law_j905 xs L x5 q129.2 else none))))
set_option maxHeartbeats 4000000 in
set_option maxRecDepth 100000 in
theorem w_L_law_j840 (X : Cx g RL cL_law 8 (some .boolean) p s m args meth c) (TX : TXs g (GA g s.heap.size) s s.heap) (hst : l.stackTraces = false) {b L : Nat} {xs : Nat → Int32} (hX : va_X b L xs s s.heap) (hbl : b < s.heap.size) (hbA : ¬ GA g s.heap.size b) {kc nc : Nat} (hkc : kc + 4 ≤ room_1.cells) (hnc : nc + 24 ≤ room_1.slots) (x5 : Int32) (σ : St) {w : (Int32 × St) ⊕ St} (KB : ∀ (v0_ : Int32) (v1_ : St), w = .inl (v0_, v1_) → ∀ (H : Heap) (locs : List Loc) (ls : Array Slot), Wd g s v1_ H locs → lv_has ls 8 [(0, .ref (b)), (1, .ref (g.2.2 (0))), (2, .ref (g.2.2 (101))), (3, .ref (g.2.2 (122))), (4, .ref (g.2.2 (123))), (5, .int (v0_))] → W p l e room_1 s m args below meth c H locs (kc + 4) (nc + 24) Q (F0 m 28 ls [])) (KX : ∀ (v : St), w = .inr v → ∀ (H : Heap) (locs : List Loc) (ls : Array Slot), Wd g s v H locs → lv_has ls 8 [(0, .ref (b))] → W p l e room_1 s m args below meth c H locs (kc) (nc) Q (F0 m 1673 ls [])) {H : Heap} {locs : List Loc} {ls : Array Slot} (Y : Wd g s σ H locs) (hl : lv_has ls 8 [(0, .ref (b)), (1, .ref (g.2.2 (0))), (2, .ref (g.2.2 (101))), (3, .ref (g.2.2 (122))), (4, .ref (g.2.2 (123))), (5, .int (x5))]) (h : f_L_law_j840 xs L x5 σ = some w) : W p l e room_1 s m args below meth c H locs (kc) (nc) Q (F0 m 840 ls []) := by
  unfold f_L_law_j840 at h
  refine lv_aload_n X.1 X.2.1 (dk T_L_law_7 45 rfl) rfl (lv_at hl 1 rfl) ?_
  refine lv_aload_n X.1 X.2.1 (dk T_L_law_7 46 rfl) rfl (lv_at hl 0 rfl) ?_
  refine lv_iload X.1 X.2.1 (dk T_L_law_7 47 rfl) (lv_at hl 5 rfl) ?_
  refine lv_iconst (v := 1) X.1 X.2.1 (dk T_L_law_7 48 rfl) ic_1 ?_
  refine lv_iadd X.1 X.2.1 (dk T_L_law_7 49 rfl) ?_
  obtain ⟨g124, h⟩ := gd h
  refine va_sld X.1 X.2.1 hX hbl hbA Y.2 (inp g124) (dk T_L_law_7 50 rfl) ?_
  refine lv_aload_n X.1 X.2.1 (dk T_L_law_7 51 rfl) rfl (lv_at hl 0 rfl) ?_
  refine lv_iload X.1 X.2.1 (dk T_L_law_7 52 rfl) (lv_at hl 5 rfl) ?_
  refine lv_iconst (v := 2) X.1 X.2.1 (dk T_L_law_7 53 rfl) ic_2 ?_
  refine lv_iadd X.1 X.2.1 (dk T_L_law_7 54 rfl) ?_
  obtain ⟨g125, h⟩ := gd h
  refine va_sld X.1 X.2.1 hX hbl hbA Y.2 (inp g125) (dk T_L_law_7 55 rfl) ?_
  refine lv_aload_n X.1 X.2.1 (dk T_L_law_7 56 rfl) rfl (lv_at hl 3 rfl) ?_
  obtain ⟨q126, hq126, h⟩ := bs h
  refine gsH (rest := []) X TX hst Y (c_L_part (xs (x5 + 1).toNatClampNeg) (xs (x5 + 2).toNatClampNeg) σ hq126) cb_L_132 hl.1 rfl rfl (Nat.le_of_ble_eq_true rfl) ⟨(Nat.le_of_ble_eq_true rfl), (Nat.le_of_ble_eq_true rfl)⟩ ⟨law_le hkc (by decide), law_le hnc (by decide)⟩ (dk T_L_law_7 57 rfl) (fun H locs Y => ?_)
  refine lv_istore (lv' := [(6, .int (q126.1)), (0, .ref (b)), (1, .ref (g.2.2 (0))), (2, .ref (g.2.2 (101))), (3, .ref (g.2.2 (122))), (4, .ref (g.2.2 (123))), (5, .int (x5))]) X.1 X.2.1 (dk T_L_law_7 58 rfl) hl (Nat.le_of_ble_eq_true rfl) rfl (fun ls hl => ?_)
  refine lv_aload_n X.1 X.2.1 (dk T_L_law_7 59 rfl) rfl (lv_at hl 3 rfl) ?_
  refine lv_aload_n X.1 X.2.1 (dk T_L_law_7 60 rfl) rfl (lv_at hl 1 rfl) ?_
  refine lv_iload X.1 X.2.1 (dk T_L_law_7 61 rfl) (lv_at hl 6 rfl) ?_
  refine lv_iconst (v := 1) X.1 X.2.1 (dk T_L_law_7 62 rfl) ic_1 ?_
  refine lv_iadd X.1 X.2.1 (dk T_L_law_7 63 rfl) ?_
  obtain ⟨g127, h⟩ := gd h
  refine va_sld X.1 X.2.1 hX hbl hbA Y.2 (inp g127) (dk T_L_law_8 0 rfl) ?_
  refine lv_aload_n X.1 X.2.1 (dk T_L_law_8 1 rfl) rfl (lv_at hl 1 rfl) ?_
  refine lv_iload X.1 X.2.1 (dk T_L_law_8 2 rfl) (lv_at hl 6 rfl) ?_
  refine lv_iconst (v := 2) X.1 X.2.1 (dk T_L_law_8 3 rfl) ic_2 ?_
  refine lv_iadd X.1 X.2.1 (dk T_L_law_8 4 rfl) ?_
  obtain ⟨g128, h⟩ := gd h
  refine va_sld X.1 X.2.1 hX hbl hbA Y.2 (inp g128) (dk T_L_law_8 5 rfl) ?_
  obtain ⟨q129, hq129, h⟩ := bs h
  refine gvIx (rest := []) X Y (c_X11_part (xs (x5 + 1).toNatClampNeg) (xs (x5 + 2).toNatClampNeg) q126.2 hq129) cb_L_134 rfl hl.1 rfl rfl (Nat.le_of_ble_eq_true rfl) ⟨(Nat.le_of_ble_eq_true rfl), (Nat.le_of_ble_eq_true rfl)⟩ ⟨law_le hkc (by decide), law_le hnc (by decide)⟩ (dk T_L_law_8 6 rfl) (fun H locs Y => ?_)
  refine lv_istore (lv' := [(7, .int (q129.1)), (6, .int (q126.1)), (0, .ref (b)), (1, .ref (g.2.2 (0))), (2, .ref (g.2.2 (101))), (3, .ref (g.2.2 (122))), (4, .ref (g.2.2 (123))), (5, .int (x5))]) X.1 X.2.1 (dk T_L_law_8 7 rfl) hl (Nat.le_of_ble_eq_true rfl) rfl (fun ls hl => ?_)
  refine lv_aload_n X.1 X.2.1 (dk T_L_law_8 8 rfl) rfl (lv_at hl 4 rfl) ?_
  obtain ⟨q130, hq130, h⟩ := bs h
  refine gvIx (rest := []) X Y (c_X11_thrown q129.2 hq130) cb_L_102 rfl hl.1 rfl rfl (Nat.le_of_ble_eq_true rfl) ⟨(Nat.le_of_ble_eq_true rfl), (Nat.le_of_ble_eq_true rfl)⟩ ⟨law_le hkc (by decide), law_le hnc (by decide)⟩ (dk T_L_law_8 9 rfl) (fun H locs Y => ?_)
  refine lv_iload X.1 X.2.1 (dk T_L_law_8 10 rfl) (lv_at hl 1 rfl) ?_
  refine lv_icmp_eq (tgt := 888) X.1 X.2.1 (dk T_L_law_8 11 rfl) rfl (fun c131 => ?_) (fun c131 => ?_)
  · replace h := ipos c131 h
    refine lv_iload X.1 X.2.1 (dk T_L_law_8 14 rfl) (lv_at hl 1 rfl) ?_
    refine lv_if_ne (tgt := 905) X.1 X.2.1 (dk T_L_law_8 15 rfl) rfl (fun c132 => ?_) (fun c132 => ?_)
    · replace h := ineg c132 h
      exact w_L_law_j905 X TX hst hX hbl hbA hkc hnc x5 q129.2 KB KX Y (lv_sub hl [2, 3, 4, 5, 6, 7] rfl) h
    · replace h := ipos c132 h
      refine lv_aload_n X.1 X.2.1 (dk T_L_law_8 16 rfl) rfl (lv_at hl 5 rfl) ?_
      refine lv_iconst (v := 0) X.1 X.2.1 (dk T_L_law_8 17 rfl) ic_0 ?_
      obtain ⟨g133, h⟩ := gd h
      refine gll X Y rfl (inp g133) (dk T_L_law_8 18 rfl) ?_
      refine lv_iload X.1 X.2.1 (dk T_L_law_8 19 rfl) (lv_at hl 0 rfl) ?_
      refine lv_i2l X.1 X.2.1 (dk T_L_law_8 20 rfl) rfl ?_
      refine W.lcmp X.1 X.2.1 (dk T_L_law_8 21 rfl) ?_
      refine lv_if_eq (tgt := 905) X.1 X.2.1 (dk T_L_law_8 22 rfl) rfl (fun c134 => ?_) (fun c134 => ?_)
      · replace h := ipos c134 h
        exact w_L_law_j905 X TX hst hX hbl hbA hkc hnc x5 q129.2 KB KX Y (lv_sub hl [2, 3, 4, 5, 6, 7] rfl) h
      · replace h := ineg c134 h
        cases h
  · replace h := ineg c131 h
    cases h
def f_L_law_j989 (xs : Nat → Int32) (L : Nat) (x5 : Int32) (σ : St) : Option ((Int32 × St) ⊕ St) :=
  f_L_law_j1667 xs L x5 σ
set_option maxHeartbeats 4000000 in
set_option maxRecDepth 100000 in
theorem w_L_law_j989 (X : Cx g RL cL_law 8 (some .boolean) p s m args meth c) (TX : TXs g (GA g s.heap.size) s s.heap) (hst : l.stackTraces = false) {b L : Nat} {xs : Nat → Int32} (hX : va_X b L xs s s.heap) (hbl : b < s.heap.size) (hbA : ¬ GA g s.heap.size b) {kc nc : Nat} (hkc : kc + 4 ≤ room_1.cells) (hnc : nc + 24 ≤ room_1.slots) (x5 : Int32) (σ : St) {w : (Int32 × St) ⊕ St} (KB : ∀ (v0_ : Int32) (v1_ : St), w = .inl (v0_, v1_) → ∀ (H : Heap) (locs : List Loc) (ls : Array Slot), Wd g s v1_ H locs → lv_has ls 8 [(0, .ref (b)), (1, .ref (g.2.2 (0))), (2, .ref (g.2.2 (101))), (3, .ref (g.2.2 (122))), (4, .ref (g.2.2 (123))), (5, .int (v0_))] → W p l e room_1 s m args below meth c H locs (kc + 4) (nc + 24) Q (F0 m 28 ls [])) (KX : ∀ (v : St), w = .inr v → ∀ (H : Heap) (locs : List Loc) (ls : Array Slot), Wd g s v H locs → lv_has ls 8 [(0, .ref (b))] → W p l e room_1 s m args below meth c H locs (kc) (nc) Q (F0 m 1673 ls [])) {H : Heap} {locs : List Loc} {ls : Array Slot} (Y : Wd g s σ H locs) (hl : lv_has ls 8 [(0, .ref (b)), (1, .ref (g.2.2 (0))), (2, .ref (g.2.2 (101))), (3, .ref (g.2.2 (122))), (4, .ref (g.2.2 (123))), (5, .int (x5))]) (h : f_L_law_j989 xs L x5 σ = some w) : W p l e room_1 s m args below meth c H locs (kc + 1) (nc + 6) Q (F0 m 989 ls []) := by
  unfold f_L_law_j989 at h
  refine lv_goto (tgt := 1667) X.1 X.2.1 (dk T_L_law_9 14 rfl) rfl ?_
  refine W.widen (k := kc + 4) (n := nc + 24) (by omega) (by omega) ?_
  exact w_L_law_j1667 X TX hst hX hbl hbA hkc hnc x5 σ KB KX Y (lv_sub hl [0, 1, 2, 3, 4, 5] rfl) h
def f_L_law_j956 (xs : Nat → Int32) (L : Nat) (x5 : Int32) (x6 : Int32) (s0 : Int32) (s1 : Int32) (σ : St) : Option ((Int32 × St) ⊕ St) :=
  (f_X11_reason s1 s0 σ).bind fun q143 => (f_X11_thrown q143.2).bind fun q144 => if q144 = x6 then if x6 = 0 then chk (inb 0 1) (if (lg_cmp ((q143.2 122 (0 : Int32).toNatClampNeg).toInt64) q143.1.toInt64) = 0 then f_L_law_j989 xs L x5 q143.2 else none) else f_L_law_j989 xs L x5 q143.2 else none
set_option maxHeartbeats 4000000 in
set_option maxRecDepth 100000 in
theorem w_L_law_j956 (X : Cx g RL cL_law 8 (some .boolean) p s m args meth c) (TX : TXs g (GA g s.heap.size) s s.heap) (hst : l.stackTraces = false) {b L : Nat} {xs : Nat → Int32} (hX : va_X b L xs s s.heap) (hbl : b < s.heap.size) (hbA : ¬ GA g s.heap.size b) {kc nc : Nat} (hkc : kc + 4 ≤ room_1.cells) (hnc : nc + 24 ≤ room_1.slots) (x5 : Int32) (x6 : Int32) (s0 : Int32) (s1 : Int32) (σ : St) {w : (Int32 × St) ⊕ St} (KB : ∀ (v0_ : Int32) (v1_ : St), w = .inl (v0_, v1_) → ∀ (H : Heap) (locs : List Loc) (ls : Array Slot), Wd g s v1_ H locs → lv_has ls 8 [(0, .ref (b)), (1, .ref (g.2.2 (0))), (2, .ref (g.2.2 (101))), (3, .ref (g.2.2 (122))), (4, .ref (g.2.2 (123))), (5, .int (v0_))] → W p l e room_1 s m args below meth c H locs (kc + 4) (nc + 24) Q (F0 m 28 ls [])) (KX : ∀ (v : St), w = .inr v → ∀ (H : Heap) (locs : List Loc) (ls : Array Slot), Wd g s v H locs → lv_has ls 8 [(0, .ref (b))] → W p l e room_1 s m args below meth c H locs (kc) (nc) Q (F0 m 1673 ls [])) {H : Heap} {locs : List Loc} {ls : Array Slot} (Y : Wd g s σ H locs) (hl : lv_has ls 8 [(0, .ref (b)), (1, .ref (g.2.2 (0))), (2, .ref (g.2.2 (101))), (3, .ref (g.2.2 (122))), (4, .ref (g.2.2 (123))), (5, .int (x5)), (6, .int (x6))]) (h : f_L_law_j956 xs L x5 x6 s0 s1 σ = some w) : W p l e room_1 s m args below meth c H locs (kc + 1) (nc + 6) Q (F0 m 956 ls [.int (s0), .int (s1), .ref (g.2.2 (101))]) := by
  unfold f_L_law_j956 at h
  obtain ⟨q143, hq143, h⟩ := bs h
  refine gvIx (rest := []) X Y (c_X11_reason s1 s0 σ hq143) cb_L_138 rfl hl.1 rfl rfl (Nat.le_of_ble_eq_true rfl) ⟨(Nat.le_of_ble_eq_true rfl), (Nat.le_of_ble_eq_true rfl)⟩ ⟨law_le hkc (by decide), law_le hnc (by decide)⟩ (dk T_L_law_8 59 rfl) (fun H locs Y => ?_)
  refine lv_istore (lv' := [(7, .int (q143.1)), (0, .ref (b)), (1, .ref (g.2.2 (0))), (2, .ref (g.2.2 (101))), (3, .ref (g.2.2 (122))), (4, .ref (g.2.2 (123))), (5, .int (x5)), (6, .int (x6))]) X.1 X.2.1 (dk T_L_law_8 60 rfl) hl (Nat.le_of_ble_eq_true rfl) rfl (fun ls hl => ?_)
  refine lv_aload_n X.1 X.2.1 (dk T_L_law_8 61 rfl) rfl (lv_at hl 3 rfl) ?_
  obtain ⟨q144, hq144, h⟩ := bs h
  refine gvIx (rest := []) X Y (c_X11_thrown q143.2 hq144) cb_L_102 rfl hl.1 rfl rfl (Nat.le_of_ble_eq_true rfl) ⟨(Nat.le_of_ble_eq_true rfl), (Nat.le_of_ble_eq_true rfl)⟩ ⟨law_le hkc (by decide), law_le hnc (by decide)⟩ (dk T_L_law_8 62 rfl) (fun H locs Y => ?_)
  refine lv_iload X.1 X.2.1 (dk T_L_law_8 63 rfl) (lv_at hl 7 rfl) ?_
  refine lv_icmp_eq (tgt := 972) X.1 X.2.1 (dk T_L_law_9 0 rfl) rfl (fun c145 => ?_) (fun c145 => ?_)
  · replace h := ipos c145 h
    refine lv_iload X.1 X.2.1 (dk T_L_law_9 3 rfl) (lv_at hl 7 rfl) ?_
    refine lv_if_ne (tgt := 989) X.1 X.2.1 (dk T_L_law_9 4 rfl) rfl (fun c146 => ?_) (fun c146 => ?_)
    · replace h := ineg c146 h
      exact w_L_law_j989 X TX hst hX hbl hbA hkc hnc x5 q143.2 KB KX Y (lv_sub hl [1, 2, 3, 4, 5, 6] rfl) h
    · replace h := ipos c146 h
      refine lv_aload_n X.1 X.2.1 (dk T_L_law_9 5 rfl) rfl (lv_at hl 4 rfl) ?_
      refine lv_iconst (v := 0) X.1 X.2.1 (dk T_L_law_9 6 rfl) ic_0 ?_
      obtain ⟨g147, h⟩ := gd h
      refine gll X Y rfl (inp g147) (dk T_L_law_9 7 rfl) ?_
      refine lv_iload X.1 X.2.1 (dk T_L_law_9 8 rfl) (lv_at hl 0 rfl) ?_
      refine lv_i2l X.1 X.2.1 (dk T_L_law_9 9 rfl) rfl ?_
      refine W.lcmp X.1 X.2.1 (dk T_L_law_9 10 rfl) ?_
      refine lv_if_eq (tgt := 989) X.1 X.2.1 (dk T_L_law_9 11 rfl) rfl (fun c148 => ?_) (fun c148 => ?_)
      · replace h := ipos c148 h
        exact w_L_law_j989 X TX hst hX hbl hbA hkc hnc x5 q143.2 KB KX Y (lv_sub hl [1, 2, 3, 4, 5, 6] rfl) h
      · replace h := ineg c148 h
        cases h
  · replace h := ineg c145 h
    cases h
def f_L_law_j929 (xs : Nat → Int32) (L : Nat) (x5 : Int32) (s0 : Int32) (s1 : Int32) (σ : St) : Option ((Int32 × St) ⊕ St) :=
  (f_L_reason s1 s0 σ).bind fun q139 => chk (inb (x5 + 1) L) (chk (inb (x5 + 2) L) (if (xs (x5 + 2).toNatClampNeg) = 0 then f_L_law_j956 xs L x5 q139.1 0 (xs (x5 + 1).toNatClampNeg) q139.2 else f_L_law_j956 xs L x5 q139.1 1 (xs (x5 + 1).toNatClampNeg) q139.2))
set_option maxHeartbeats 4000000 in
set_option maxRecDepth 100000 in
theorem w_L_law_j929 (X : Cx g RL cL_law 8 (some .boolean) p s m args meth c) (TX : TXs g (GA g s.heap.size) s s.heap) (hst : l.stackTraces = false) {b L : Nat} {xs : Nat → Int32} (hX : va_X b L xs s s.heap) (hbl : b < s.heap.size) (hbA : ¬ GA g s.heap.size b) {kc nc : Nat} (hkc : kc + 4 ≤ room_1.cells) (hnc : nc + 24 ≤ room_1.slots) (x5 : Int32) (s0 : Int32) (s1 : Int32) (σ : St) {w : (Int32 × St) ⊕ St} (KB : ∀ (v0_ : Int32) (v1_ : St), w = .inl (v0_, v1_) → ∀ (H : Heap) (locs : List Loc) (ls : Array Slot), Wd g s v1_ H locs → lv_has ls 8 [(0, .ref (b)), (1, .ref (g.2.2 (0))), (2, .ref (g.2.2 (101))), (3, .ref (g.2.2 (122))), (4, .ref (g.2.2 (123))), (5, .int (v0_))] → W p l e room_1 s m args below meth c H locs (kc + 4) (nc + 24) Q (F0 m 28 ls [])) (KX : ∀ (v : St), w = .inr v → ∀ (H : Heap) (locs : List Loc) (ls : Array Slot), Wd g s v H locs → lv_has ls 8 [(0, .ref (b))] → W p l e room_1 s m args below meth c H locs (kc) (nc) Q (F0 m 1673 ls [])) {H : Heap} {locs : List Loc} {ls : Array Slot} (Y : Wd g s σ H locs) (hl : lv_has ls 8 [(0, .ref (b)), (1, .ref (g.2.2 (0))), (2, .ref (g.2.2 (101))), (3, .ref (g.2.2 (122))), (4, .ref (g.2.2 (123))), (5, .int (x5))]) (h : f_L_law_j929 xs L x5 s0 s1 σ = some w) : W p l e room_1 s m args below meth c H locs (kc) (nc) Q (F0 m 929 ls [.int (s0), .int (s1), .ref (g.2.2 (0))]) := by
  unfold f_L_law_j929 at h
  refine lv_aload_n X.1 X.2.1 (dk T_L_law_8 41 rfl) rfl (lv_at hl 3 rfl) ?_
  obtain ⟨q139, hq139, h⟩ := bs h
  refine gsH (rest := []) X TX hst Y (c_L_reason s1 s0 σ hq139) cb_L_135 hl.1 rfl rfl (Nat.le_of_ble_eq_true rfl) ⟨(Nat.le_of_ble_eq_true rfl), (Nat.le_of_ble_eq_true rfl)⟩ ⟨law_le hkc (by decide), law_le hnc (by decide)⟩ (dk T_L_law_8 42 rfl) (fun H locs Y => ?_)
  refine lv_istore (lv' := [(6, .int (q139.1)), (0, .ref (b)), (1, .ref (g.2.2 (0))), (2, .ref (g.2.2 (101))), (3, .ref (g.2.2 (122))), (4, .ref (g.2.2 (123))), (5, .int (x5))]) X.1 X.2.1 (dk T_L_law_8 43 rfl) hl (Nat.le_of_ble_eq_true rfl) rfl (fun ls hl => ?_)
  refine lv_aload_n X.1 X.2.1 (dk T_L_law_8 44 rfl) rfl (lv_at hl 3 rfl) ?_
  refine lv_aload_n X.1 X.2.1 (dk T_L_law_8 45 rfl) rfl (lv_at hl 1 rfl) ?_
  refine lv_iload X.1 X.2.1 (dk T_L_law_8 46 rfl) (lv_at hl 6 rfl) ?_
  refine lv_iconst (v := 1) X.1 X.2.1 (dk T_L_law_8 47 rfl) ic_1 ?_
  refine lv_iadd X.1 X.2.1 (dk T_L_law_8 48 rfl) ?_
  obtain ⟨g140, h⟩ := gd h
  refine va_sld X.1 X.2.1 hX hbl hbA Y.2 (inp g140) (dk T_L_law_8 49 rfl) ?_
  refine lv_aload_n X.1 X.2.1 (dk T_L_law_8 50 rfl) rfl (lv_at hl 1 rfl) ?_
  refine lv_iload X.1 X.2.1 (dk T_L_law_8 51 rfl) (lv_at hl 6 rfl) ?_
  refine lv_iconst (v := 2) X.1 X.2.1 (dk T_L_law_8 52 rfl) ic_2 ?_
  refine lv_iadd X.1 X.2.1 (dk T_L_law_8 53 rfl) ?_
  obtain ⟨g141, h⟩ := gd h
  refine va_sld X.1 X.2.1 hX hbl hbA Y.2 (inp g141) (dk T_L_law_8 54 rfl) ?_
  refine lv_if_eq (tgt := 955) X.1 X.2.1 (dk T_L_law_8 55 rfl) rfl (fun c142 => ?_) (fun c142 => ?_)
  · replace h := ipos c142 h
    refine lv_iconst (v := 0) X.1 X.2.1 (dk T_L_law_8 58 rfl) ic_0 ?_
    exact w_L_law_j956 X TX hst hX hbl hbA hkc hnc x5 q139.1 0 (xs (x5 + 1).toNatClampNeg) q139.2 KB KX Y (lv_sub hl [1, 2, 3, 4, 5, 6, 0] rfl) h
  · replace h := ineg c142 h
    refine lv_iconst (v := 1) X.1 X.2.1 (dk T_L_law_8 56 rfl) ic_1 ?_
    refine lv_goto (tgt := 956) X.1 X.2.1 (dk T_L_law_8 57 rfl) rfl ?_
    exact w_L_law_j956 X TX hst hX hbl hbA hkc hnc x5 q139.1 1 (xs (x5 + 1).toNatClampNeg) q139.2 KB KX Y (lv_sub hl [1, 2, 3, 4, 5, 6, 0] rfl) h
def f_L_law_j908 (xs : Nat → Int32) (L : Nat) (x5 : Int32) (σ : St) : Option ((Int32 × St) ⊕ St) :=
  chk (inb (x5 + 1) L) (chk (inb (x5 + 2) L) (if (xs (x5 + 2).toNatClampNeg) = 0 then f_L_law_j929 xs L x5 0 (xs (x5 + 1).toNatClampNeg) σ else f_L_law_j929 xs L x5 1 (xs (x5 + 1).toNatClampNeg) σ))
set_option maxHeartbeats 4000000 in
set_option maxRecDepth 100000 in
theorem w_L_law_j908 (X : Cx g RL cL_law 8 (some .boolean) p s m args meth c) (TX : TXs g (GA g s.heap.size) s s.heap) (hst : l.stackTraces = false) {b L : Nat} {xs : Nat → Int32} (hX : va_X b L xs s s.heap) (hbl : b < s.heap.size) (hbA : ¬ GA g s.heap.size b) {kc nc : Nat} (hkc : kc + 4 ≤ room_1.cells) (hnc : nc + 24 ≤ room_1.slots) (x5 : Int32) (σ : St) {w : (Int32 × St) ⊕ St} (KB : ∀ (v0_ : Int32) (v1_ : St), w = .inl (v0_, v1_) → ∀ (H : Heap) (locs : List Loc) (ls : Array Slot), Wd g s v1_ H locs → lv_has ls 8 [(0, .ref (b)), (1, .ref (g.2.2 (0))), (2, .ref (g.2.2 (101))), (3, .ref (g.2.2 (122))), (4, .ref (g.2.2 (123))), (5, .int (v0_))] → W p l e room_1 s m args below meth c H locs (kc + 4) (nc + 24) Q (F0 m 28 ls [])) (KX : ∀ (v : St), w = .inr v → ∀ (H : Heap) (locs : List Loc) (ls : Array Slot), Wd g s v H locs → lv_has ls 8 [(0, .ref (b))] → W p l e room_1 s m args below meth c H locs (kc) (nc) Q (F0 m 1673 ls [])) {H : Heap} {locs : List Loc} {ls : Array Slot} (Y : Wd g s σ H locs) (hl : lv_has ls 8 [(0, .ref (b)), (1, .ref (g.2.2 (0))), (2, .ref (g.2.2 (101))), (3, .ref (g.2.2 (122))), (4, .ref (g.2.2 (123))), (5, .int (x5))]) (h : f_L_law_j908 xs L x5 σ = some w) : W p l e room_1 s m args below meth c H locs (kc) (nc) Q (F0 m 908 ls []) := by
  unfold f_L_law_j908 at h
  refine lv_aload_n X.1 X.2.1 (dk T_L_law_8 26 rfl) rfl (lv_at hl 1 rfl) ?_
  refine lv_aload_n X.1 X.2.1 (dk T_L_law_8 27 rfl) rfl (lv_at hl 0 rfl) ?_
  refine lv_iload X.1 X.2.1 (dk T_L_law_8 28 rfl) (lv_at hl 5 rfl) ?_
  refine lv_iconst (v := 1) X.1 X.2.1 (dk T_L_law_8 29 rfl) ic_1 ?_
  refine lv_iadd X.1 X.2.1 (dk T_L_law_8 30 rfl) ?_
  obtain ⟨g136, h⟩ := gd h
  refine va_sld X.1 X.2.1 hX hbl hbA Y.2 (inp g136) (dk T_L_law_8 31 rfl) ?_
  refine lv_aload_n X.1 X.2.1 (dk T_L_law_8 32 rfl) rfl (lv_at hl 0 rfl) ?_
  refine lv_iload X.1 X.2.1 (dk T_L_law_8 33 rfl) (lv_at hl 5 rfl) ?_
  refine lv_iconst (v := 2) X.1 X.2.1 (dk T_L_law_8 34 rfl) ic_2 ?_
  refine lv_iadd X.1 X.2.1 (dk T_L_law_8 35 rfl) ?_
  obtain ⟨g137, h⟩ := gd h
  refine va_sld X.1 X.2.1 hX hbl hbA Y.2 (inp g137) (dk T_L_law_8 36 rfl) ?_
  refine lv_if_eq (tgt := 928) X.1 X.2.1 (dk T_L_law_8 37 rfl) rfl (fun c138 => ?_) (fun c138 => ?_)
  · replace h := ipos c138 h
    refine lv_iconst (v := 0) X.1 X.2.1 (dk T_L_law_8 40 rfl) ic_0 ?_
    exact w_L_law_j929 X TX hst hX hbl hbA hkc hnc x5 0 (xs (x5 + 1).toNatClampNeg) σ KB KX Y (lv_sub hl [0, 1, 2, 3, 4, 5] rfl) h
  · replace h := ineg c138 h
    refine lv_iconst (v := 1) X.1 X.2.1 (dk T_L_law_8 38 rfl) ic_1 ?_
    refine lv_goto (tgt := 929) X.1 X.2.1 (dk T_L_law_8 39 rfl) rfl ?_
    exact w_L_law_j929 X TX hst hX hbl hbA hkc hnc x5 1 (xs (x5 + 1).toNatClampNeg) σ KB KX Y (lv_sub hl [0, 1, 2, 3, 4, 5] rfl) h
def f_L_law_j1045 (xs : Nat → Int32) (L : Nat) (x5 : Int32) (σ : St) : Option ((Int32 × St) ⊕ St) :=
  f_L_law_j1667 xs L x5 σ
set_option maxHeartbeats 4000000 in
set_option maxRecDepth 100000 in
theorem w_L_law_j1045 (X : Cx g RL cL_law 8 (some .boolean) p s m args meth c) (TX : TXs g (GA g s.heap.size) s s.heap) (hst : l.stackTraces = false) {b L : Nat} {xs : Nat → Int32} (hX : va_X b L xs s s.heap) (hbl : b < s.heap.size) (hbA : ¬ GA g s.heap.size b) {kc nc : Nat} (hkc : kc + 4 ≤ room_1.cells) (hnc : nc + 24 ≤ room_1.slots) (x5 : Int32) (σ : St) {w : (Int32 × St) ⊕ St} (KB : ∀ (v0_ : Int32) (v1_ : St), w = .inl (v0_, v1_) → ∀ (H : Heap) (locs : List Loc) (ls : Array Slot), Wd g s v1_ H locs → lv_has ls 8 [(0, .ref (b)), (1, .ref (g.2.2 (0))), (2, .ref (g.2.2 (101))), (3, .ref (g.2.2 (122))), (4, .ref (g.2.2 (123))), (5, .int (v0_))] → W p l e room_1 s m args below meth c H locs (kc + 4) (nc + 24) Q (F0 m 28 ls [])) (KX : ∀ (v : St), w = .inr v → ∀ (H : Heap) (locs : List Loc) (ls : Array Slot), Wd g s v H locs → lv_has ls 8 [(0, .ref (b))] → W p l e room_1 s m args below meth c H locs (kc) (nc) Q (F0 m 1673 ls [])) {H : Heap} {locs : List Loc} {ls : Array Slot} (Y : Wd g s σ H locs) (hl : lv_has ls 8 [(0, .ref (b)), (1, .ref (g.2.2 (0))), (2, .ref (g.2.2 (101))), (3, .ref (g.2.2 (122))), (4, .ref (g.2.2 (123))), (5, .int (x5))]) (h : f_L_law_j1045 xs L x5 σ = some w) : W p l e room_1 s m args below meth c H locs (kc + 2) (nc + 12) Q (F0 m 1045 ls []) := by
  unfold f_L_law_j1045 at h
  refine lv_goto (tgt := 1667) X.1 X.2.1 (dk T_L_law_9 49 rfl) rfl ?_
  refine W.widen (k := kc + 4) (n := nc + 24) (by omega) (by omega) ?_
  exact w_L_law_j1667 X TX hst hX hbl hbA hkc hnc x5 σ KB KX Y (lv_sub hl [0, 1, 2, 3, 4, 5] rfl) h
def f_L_law_j992 (xs : Nat → Int32) (L : Nat) (x5 : Int32) (σ : St) : Option ((Int32 × St) ⊕ St) :=
  chk (inb (x5 + 1) L) ((f_L_nest (xs (x5 + 1).toNatClampNeg) σ).bind fun q151 => chk (inb (x5 + 1) L) ((f_X11_nest (xs (x5 + 1).toNatClampNeg) q151.2).bind fun q153 => (f_X11_thrown q153.2).bind fun q154 => if q154 = q151.1 then if q151.1 = 0 then chk (inb 0 1) (if (lg_cmp ((q153.2 122 (0 : Int32).toNatClampNeg).toInt64) q153.1.toInt64) = 0 then f_L_law_j1045 xs L x5 q153.2 else none) else f_L_law_j1045 xs L x5 q153.2 else none))
set_option maxHeartbeats 4000000 in
set_option maxRecDepth 100000 in
theorem w_L_law_j992 (X : Cx g RL cL_law 8 (some .boolean) p s m args meth c) (TX : TXs g (GA g s.heap.size) s s.heap) (hst : l.stackTraces = false) {b L : Nat} {xs : Nat → Int32} (hX : va_X b L xs s s.heap) (hbl : b < s.heap.size) (hbA : ¬ GA g s.heap.size b) {kc nc : Nat} (hkc : kc + 4 ≤ room_1.cells) (hnc : nc + 24 ≤ room_1.slots) (x5 : Int32) (σ : St) {w : (Int32 × St) ⊕ St} (KB : ∀ (v0_ : Int32) (v1_ : St), w = .inl (v0_, v1_) → ∀ (H : Heap) (locs : List Loc) (ls : Array Slot), Wd g s v1_ H locs → lv_has ls 8 [(0, .ref (b)), (1, .ref (g.2.2 (0))), (2, .ref (g.2.2 (101))), (3, .ref (g.2.2 (122))), (4, .ref (g.2.2 (123))), (5, .int (v0_))] → W p l e room_1 s m args below meth c H locs (kc + 4) (nc + 24) Q (F0 m 28 ls [])) (KX : ∀ (v : St), w = .inr v → ∀ (H : Heap) (locs : List Loc) (ls : Array Slot), Wd g s v H locs → lv_has ls 8 [(0, .ref (b))] → W p l e room_1 s m args below meth c H locs (kc) (nc) Q (F0 m 1673 ls [])) {H : Heap} {locs : List Loc} {ls : Array Slot} (Y : Wd g s σ H locs) (hl : lv_has ls 8 [(0, .ref (b)), (1, .ref (g.2.2 (0))), (2, .ref (g.2.2 (101))), (3, .ref (g.2.2 (122))), (4, .ref (g.2.2 (123))), (5, .int (x5))]) (h : f_L_law_j992 xs L x5 σ = some w) : W p l e room_1 s m args below meth c H locs (kc) (nc) Q (F0 m 992 ls []) := by
  unfold f_L_law_j992 at h
  refine lv_aload_n X.1 X.2.1 (dk T_L_law_9 15 rfl) rfl (lv_at hl 1 rfl) ?_
  refine lv_aload_n X.1 X.2.1 (dk T_L_law_9 16 rfl) rfl (lv_at hl 0 rfl) ?_
  refine lv_iload X.1 X.2.1 (dk T_L_law_9 17 rfl) (lv_at hl 5 rfl) ?_
  refine lv_iconst (v := 1) X.1 X.2.1 (dk T_L_law_9 18 rfl) ic_1 ?_
  refine lv_iadd X.1 X.2.1 (dk T_L_law_9 19 rfl) ?_
  obtain ⟨g150, h⟩ := gd h
  refine va_sld X.1 X.2.1 hX hbl hbA Y.2 (inp g150) (dk T_L_law_9 20 rfl) ?_
  refine lv_aload_n X.1 X.2.1 (dk T_L_law_9 21 rfl) rfl (lv_at hl 3 rfl) ?_
  obtain ⟨q151, hq151, h⟩ := bs h
  refine gsH (rest := []) X TX hst Y (c_L_nest (xs (x5 + 1).toNatClampNeg) σ hq151) cb_L_139 hl.1 rfl rfl (Nat.le_of_ble_eq_true rfl) ⟨(Nat.le_of_ble_eq_true rfl), (Nat.le_of_ble_eq_true rfl)⟩ ⟨law_le hkc (by decide), law_le hnc (by decide)⟩ (dk T_L_law_9 22 rfl) (fun H locs Y => ?_)
  refine lv_istore (lv' := [(6, .int (q151.1)), (0, .ref (b)), (1, .ref (g.2.2 (0))), (2, .ref (g.2.2 (101))), (3, .ref (g.2.2 (122))), (4, .ref (g.2.2 (123))), (5, .int (x5))]) X.1 X.2.1 (dk T_L_law_9 23 rfl) hl (Nat.le_of_ble_eq_true rfl) rfl (fun ls hl => ?_)
  refine lv_aload_n X.1 X.2.1 (dk T_L_law_9 24 rfl) rfl (lv_at hl 3 rfl) ?_
  refine lv_aload_n X.1 X.2.1 (dk T_L_law_9 25 rfl) rfl (lv_at hl 1 rfl) ?_
  refine lv_iload X.1 X.2.1 (dk T_L_law_9 26 rfl) (lv_at hl 6 rfl) ?_
  refine lv_iconst (v := 1) X.1 X.2.1 (dk T_L_law_9 27 rfl) ic_1 ?_
  refine lv_iadd X.1 X.2.1 (dk T_L_law_9 28 rfl) ?_
  obtain ⟨g152, h⟩ := gd h
  refine va_sld X.1 X.2.1 hX hbl hbA Y.2 (inp g152) (dk T_L_law_9 29 rfl) ?_
  obtain ⟨q153, hq153, h⟩ := bs h
  refine gvIx (rest := []) X Y (c_X11_nest (xs (x5 + 1).toNatClampNeg) q151.2 hq153) cb_L_141 rfl hl.1 rfl rfl (Nat.le_of_ble_eq_true rfl) ⟨(Nat.le_of_ble_eq_true rfl), (Nat.le_of_ble_eq_true rfl)⟩ ⟨law_le hkc (by decide), law_le hnc (by decide)⟩ (dk T_L_law_9 30 rfl) (fun H locs Y => ?_)
  refine lv_istore (lv' := [(7, .int (q153.1)), (6, .int (q151.1)), (0, .ref (b)), (1, .ref (g.2.2 (0))), (2, .ref (g.2.2 (101))), (3, .ref (g.2.2 (122))), (4, .ref (g.2.2 (123))), (5, .int (x5))]) X.1 X.2.1 (dk T_L_law_9 31 rfl) hl (Nat.le_of_ble_eq_true rfl) rfl (fun ls hl => ?_)
  refine lv_aload_n X.1 X.2.1 (dk T_L_law_9 32 rfl) rfl (lv_at hl 4 rfl) ?_
  obtain ⟨q154, hq154, h⟩ := bs h
  refine gvIx (rest := []) X Y (c_X11_thrown q153.2 hq154) cb_L_102 rfl hl.1 rfl rfl (Nat.le_of_ble_eq_true rfl) ⟨(Nat.le_of_ble_eq_true rfl), (Nat.le_of_ble_eq_true rfl)⟩ ⟨law_le hkc (by decide), law_le hnc (by decide)⟩ (dk T_L_law_9 33 rfl) (fun H locs Y => ?_)
  refine lv_iload X.1 X.2.1 (dk T_L_law_9 34 rfl) (lv_at hl 1 rfl) ?_
  refine lv_icmp_eq (tgt := 1028) X.1 X.2.1 (dk T_L_law_9 35 rfl) rfl (fun c155 => ?_) (fun c155 => ?_)
  · replace h := ipos c155 h
    refine lv_iload X.1 X.2.1 (dk T_L_law_9 38 rfl) (lv_at hl 1 rfl) ?_
    refine lv_if_ne (tgt := 1045) X.1 X.2.1 (dk T_L_law_9 39 rfl) rfl (fun c156 => ?_) (fun c156 => ?_)
    · replace h := ineg c156 h
      exact w_L_law_j1045 X TX hst hX hbl hbA hkc hnc x5 q153.2 KB KX Y (lv_sub hl [2, 3, 4, 5, 6, 7] rfl) h
    · replace h := ipos c156 h
      refine lv_aload_n X.1 X.2.1 (dk T_L_law_9 40 rfl) rfl (lv_at hl 5 rfl) ?_
      refine lv_iconst (v := 0) X.1 X.2.1 (dk T_L_law_9 41 rfl) ic_0 ?_
      obtain ⟨g157, h⟩ := gd h
      refine gll X Y rfl (inp g157) (dk T_L_law_9 42 rfl) ?_
      refine lv_iload X.1 X.2.1 (dk T_L_law_9 43 rfl) (lv_at hl 0 rfl) ?_
      refine lv_i2l X.1 X.2.1 (dk T_L_law_9 44 rfl) rfl ?_
      refine W.lcmp X.1 X.2.1 (dk T_L_law_9 45 rfl) ?_
      refine lv_if_eq (tgt := 1045) X.1 X.2.1 (dk T_L_law_9 46 rfl) rfl (fun c158 => ?_) (fun c158 => ?_)
      · replace h := ipos c158 h
        exact w_L_law_j1045 X TX hst hX hbl hbA hkc hnc x5 q153.2 KB KX Y (lv_sub hl [2, 3, 4, 5, 6, 7] rfl) h
      · replace h := ineg c158 h
        cases h
  · replace h := ineg c155 h
    cases h
def f_L_law_j1048 (xs : Nat → Int32) (L : Nat) (x5 : Int32) (σ : St) : Option ((Int32 × St) ⊕ St) :=
  (f_X10_nestAll σ).bind fun q160 => (f_X11_nestAll q160.2).bind fun q161 => if q160.1 = q161.1 then f_L_law_j1667 xs L x5 q161.2 else none
set_option maxHeartbeats 4000000 in
set_option maxRecDepth 100000 in
theorem w_L_law_j1048 (X : Cx g RL cL_law 8 (some .boolean) p s m args meth c) (TX : TXs g (GA g s.heap.size) s s.heap) (hst : l.stackTraces = false) {b L : Nat} {xs : Nat → Int32} (hX : va_X b L xs s s.heap) (hbl : b < s.heap.size) (hbA : ¬ GA g s.heap.size b) {kc nc : Nat} (hkc : kc + 4 ≤ room_1.cells) (hnc : nc + 24 ≤ room_1.slots) (x5 : Int32) (σ : St) {w : (Int32 × St) ⊕ St} (KB : ∀ (v0_ : Int32) (v1_ : St), w = .inl (v0_, v1_) → ∀ (H : Heap) (locs : List Loc) (ls : Array Slot), Wd g s v1_ H locs → lv_has ls 8 [(0, .ref (b)), (1, .ref (g.2.2 (0))), (2, .ref (g.2.2 (101))), (3, .ref (g.2.2 (122))), (4, .ref (g.2.2 (123))), (5, .int (v0_))] → W p l e room_1 s m args below meth c H locs (kc + 4) (nc + 24) Q (F0 m 28 ls [])) (KX : ∀ (v : St), w = .inr v → ∀ (H : Heap) (locs : List Loc) (ls : Array Slot), Wd g s v H locs → lv_has ls 8 [(0, .ref (b))] → W p l e room_1 s m args below meth c H locs (kc) (nc) Q (F0 m 1673 ls [])) {H : Heap} {locs : List Loc} {ls : Array Slot} (Y : Wd g s σ H locs) (hl : lv_has ls 8 [(0, .ref (b)), (1, .ref (g.2.2 (0))), (2, .ref (g.2.2 (101))), (3, .ref (g.2.2 (122))), (4, .ref (g.2.2 (123))), (5, .int (x5))]) (h : f_L_law_j1048 xs L x5 σ = some w) : W p l e room_1 s m args below meth c H locs (kc) (nc) Q (F0 m 1048 ls []) := by
  unfold f_L_law_j1048 at h
  refine lv_aload_n X.1 X.2.1 (dk T_L_law_9 50 rfl) rfl (lv_at hl 1 rfl) ?_
  obtain ⟨q160, hq160, h⟩ := bs h
  refine gvIx (rest := []) X Y (c_X10_nestAll σ hq160) cb_L_142 rfl hl.1 rfl rfl (Nat.le_of_ble_eq_true rfl) ⟨(Nat.le_of_ble_eq_true rfl), (Nat.le_of_ble_eq_true rfl)⟩ ⟨law_l0 hkc, law_l0 hnc⟩ (dk T_L_law_9 51 rfl) (fun H locs Y => ?_)
  refine lv_aload_n X.1 X.2.1 (dk T_L_law_9 52 rfl) rfl (lv_at hl 2 rfl) ?_
  obtain ⟨q161, hq161, h⟩ := bs h
  refine gvIx (rest := [.int (q160.1)]) X Y (c_X11_nestAll q160.2 hq161) cb_L_145 rfl hl.1 rfl rfl (Nat.le_of_ble_eq_true rfl) ⟨(Nat.le_of_ble_eq_true rfl), (Nat.le_of_ble_eq_true rfl)⟩ ⟨law_l0 hkc, law_l0 hnc⟩ (dk T_L_law_9 53 rfl) (fun H locs Y => ?_)
  refine lv_icmp_eq (tgt := 1667) X.1 X.2.1 (dk T_L_law_9 54 rfl) rfl (fun c162 => ?_) (fun c162 => ?_)
  · replace h := ipos c162 h
    refine W.widen (k := kc + 4) (n := nc + 24) (by omega) (by omega) ?_
    exact w_L_law_j1667 X TX hst hX hbl hbA hkc hnc x5 q161.2 KB KX Y (lv_sub hl [0, 1, 2, 3, 4, 5] rfl) h
  · replace h := ineg c162 h
    cases h
def f_L_law_j1138 (xs : Nat → Int32) (L : Nat) (x5 : Int32) (σ : St) : Option ((Int32 × St) ⊕ St) :=
  f_L_law_j1667 xs L x5 σ
set_option maxHeartbeats 4000000 in
set_option maxRecDepth 100000 in
theorem w_L_law_j1138 (X : Cx g RL cL_law 8 (some .boolean) p s m args meth c) (TX : TXs g (GA g s.heap.size) s s.heap) (hst : l.stackTraces = false) {b L : Nat} {xs : Nat → Int32} (hX : va_X b L xs s s.heap) (hbl : b < s.heap.size) (hbA : ¬ GA g s.heap.size b) {kc nc : Nat} (hkc : kc + 4 ≤ room_1.cells) (hnc : nc + 24 ≤ room_1.slots) (x5 : Int32) (σ : St) {w : (Int32 × St) ⊕ St} (KB : ∀ (v0_ : Int32) (v1_ : St), w = .inl (v0_, v1_) → ∀ (H : Heap) (locs : List Loc) (ls : Array Slot), Wd g s v1_ H locs → lv_has ls 8 [(0, .ref (b)), (1, .ref (g.2.2 (0))), (2, .ref (g.2.2 (101))), (3, .ref (g.2.2 (122))), (4, .ref (g.2.2 (123))), (5, .int (v0_))] → W p l e room_1 s m args below meth c H locs (kc + 4) (nc + 24) Q (F0 m 28 ls [])) (KX : ∀ (v : St), w = .inr v → ∀ (H : Heap) (locs : List Loc) (ls : Array Slot), Wd g s v H locs → lv_has ls 8 [(0, .ref (b))] → W p l e room_1 s m args below meth c H locs (kc) (nc) Q (F0 m 1673 ls [])) {H : Heap} {locs : List Loc} {ls : Array Slot} (Y : Wd g s σ H locs) (hl : lv_has ls 8 [(0, .ref (b)), (1, .ref (g.2.2 (0))), (2, .ref (g.2.2 (101))), (3, .ref (g.2.2 (122))), (4, .ref (g.2.2 (123))), (5, .int (x5))]) (h : f_L_law_j1138 xs L x5 σ = some w) : W p l e room_1 s m args below meth c H locs (kc + 3) (nc + 18) Q (F0 m 1138 ls []) := by
  unfold f_L_law_j1138 at h
  refine lv_goto (tgt := 1667) X.1 X.2.1 (dk T_L_law_10 47 rfl) rfl ?_
  refine W.widen (k := kc + 4) (n := nc + 24) (by omega) (by omega) ?_
  exact w_L_law_j1667 X TX hst hX hbl hbA hkc hnc x5 σ KB KX Y (lv_sub hl [0, 1, 2, 3, 4, 5] rfl) h
def f_L_law_j1061 (xs : Nat → Int32) (L : Nat) (x5 : Int32) (σ : St) : Option ((Int32 × St) ⊕ St) :=
  chk (inb (x5 + 1) L) (chk (inb (x5 + 2) L) (chk (inb (x5 + 3) L) ((f_L_remnant (xs (x5 + 1).toNatClampNeg) (xs (x5 + 2).toNatClampNeg) (xs (x5 + 3).toNatClampNeg) σ).bind fun q167 => chk (inb (x5 + 1) L) (chk (inb (x5 + 2) L) (chk (inb (x5 + 3) L) ((f_X11_remnant (xs (x5 + 1).toNatClampNeg) (xs (x5 + 2).toNatClampNeg) (xs (x5 + 3).toNatClampNeg) q167.2).bind fun q171 => (f_X11_thrown q171.2).bind fun q172 => if q172 = q167.1 then if q167.1 = 0 then chk (inb 0 1) (if (lg_cmp ((q171.2 122 (0 : Int32).toNatClampNeg).toInt64) q171.1.toInt64) = 0 then f_L_law_j1138 xs L x5 q171.2 else none) else f_L_law_j1138 xs L x5 q171.2 else none))))))
set_option maxHeartbeats 4000000 in
set_option maxRecDepth 100000 in
theorem w_L_law_j1061 (X : Cx g RL cL_law 8 (some .boolean) p s m args meth c) (TX : TXs g (GA g s.heap.size) s s.heap) (hst : l.stackTraces = false) {b L : Nat} {xs : Nat → Int32} (hX : va_X b L xs s s.heap) (hbl : b < s.heap.size) (hbA : ¬ GA g s.heap.size b) {kc nc : Nat} (hkc : kc + 4 ≤ room_1.cells) (hnc : nc + 24 ≤ room_1.slots) (x5 : Int32) (σ : St) {w : (Int32 × St) ⊕ St} (KB : ∀ (v0_ : Int32) (v1_ : St), w = .inl (v0_, v1_) → ∀ (H : Heap) (locs : List Loc) (ls : Array Slot), Wd g s v1_ H locs → lv_has ls 8 [(0, .ref (b)), (1, .ref (g.2.2 (0))), (2, .ref (g.2.2 (101))), (3, .ref (g.2.2 (122))), (4, .ref (g.2.2 (123))), (5, .int (v0_))] → W p l e room_1 s m args below meth c H locs (kc + 4) (nc + 24) Q (F0 m 28 ls [])) (KX : ∀ (v : St), w = .inr v → ∀ (H : Heap) (locs : List Loc) (ls : Array Slot), Wd g s v H locs → lv_has ls 8 [(0, .ref (b))] → W p l e room_1 s m args below meth c H locs (kc) (nc) Q (F0 m 1673 ls [])) {H : Heap} {locs : List Loc} {ls : Array Slot} (Y : Wd g s σ H locs) (hl : lv_has ls 8 [(0, .ref (b)), (1, .ref (g.2.2 (0))), (2, .ref (g.2.2 (101))), (3, .ref (g.2.2 (122))), (4, .ref (g.2.2 (123))), (5, .int (x5))]) (h : f_L_law_j1061 xs L x5 σ = some w) : W p l e room_1 s m args below meth c H locs (kc) (nc) Q (F0 m 1061 ls []) := by
  unfold f_L_law_j1061 at h
  refine lv_aload_n X.1 X.2.1 (dk T_L_law_9 57 rfl) rfl (lv_at hl 1 rfl) ?_
  refine lv_aload_n X.1 X.2.1 (dk T_L_law_9 58 rfl) rfl (lv_at hl 0 rfl) ?_
  refine lv_iload X.1 X.2.1 (dk T_L_law_9 59 rfl) (lv_at hl 5 rfl) ?_
  refine lv_iconst (v := 1) X.1 X.2.1 (dk T_L_law_9 60 rfl) ic_1 ?_
  refine lv_iadd X.1 X.2.1 (dk T_L_law_9 61 rfl) ?_
  obtain ⟨g164, h⟩ := gd h
  refine va_sld X.1 X.2.1 hX hbl hbA Y.2 (inp g164) (dk T_L_law_9 62 rfl) ?_
  refine lv_aload_n X.1 X.2.1 (dk T_L_law_9 63 rfl) rfl (lv_at hl 0 rfl) ?_
  refine lv_iload X.1 X.2.1 (dk T_L_law_10 0 rfl) (lv_at hl 5 rfl) ?_
  refine lv_iconst (v := 2) X.1 X.2.1 (dk T_L_law_10 1 rfl) ic_2 ?_
  refine lv_iadd X.1 X.2.1 (dk T_L_law_10 2 rfl) ?_
  obtain ⟨g165, h⟩ := gd h
  refine va_sld X.1 X.2.1 hX hbl hbA Y.2 (inp g165) (dk T_L_law_10 3 rfl) ?_
  refine lv_aload_n X.1 X.2.1 (dk T_L_law_10 4 rfl) rfl (lv_at hl 0 rfl) ?_
  refine lv_iload X.1 X.2.1 (dk T_L_law_10 5 rfl) (lv_at hl 5 rfl) ?_
  refine lv_iconst (v := 3) X.1 X.2.1 (dk T_L_law_10 6 rfl) ic_3 ?_
  refine lv_iadd X.1 X.2.1 (dk T_L_law_10 7 rfl) ?_
  obtain ⟨g166, h⟩ := gd h
  refine va_sld X.1 X.2.1 hX hbl hbA Y.2 (inp g166) (dk T_L_law_10 8 rfl) ?_
  refine lv_aload_n X.1 X.2.1 (dk T_L_law_10 9 rfl) rfl (lv_at hl 3 rfl) ?_
  obtain ⟨q167, hq167, h⟩ := bs h
  refine gsH (rest := []) X TX hst Y (c_L_remnant (xs (x5 + 1).toNatClampNeg) (xs (x5 + 2).toNatClampNeg) (xs (x5 + 3).toNatClampNeg) σ hq167) cb_L_146 hl.1 rfl rfl (Nat.le_of_ble_eq_true rfl) ⟨(Nat.le_of_ble_eq_true rfl), (Nat.le_of_ble_eq_true rfl)⟩ ⟨law_le hkc (by decide), law_le hnc (by decide)⟩ (dk T_L_law_10 10 rfl) (fun H locs Y => ?_)
  refine lv_istore (lv' := [(6, .int (q167.1)), (0, .ref (b)), (1, .ref (g.2.2 (0))), (2, .ref (g.2.2 (101))), (3, .ref (g.2.2 (122))), (4, .ref (g.2.2 (123))), (5, .int (x5))]) X.1 X.2.1 (dk T_L_law_10 11 rfl) hl (Nat.le_of_ble_eq_true rfl) rfl (fun ls hl => ?_)
  refine lv_aload_n X.1 X.2.1 (dk T_L_law_10 12 rfl) rfl (lv_at hl 3 rfl) ?_
  refine lv_aload_n X.1 X.2.1 (dk T_L_law_10 13 rfl) rfl (lv_at hl 1 rfl) ?_
  refine lv_iload X.1 X.2.1 (dk T_L_law_10 14 rfl) (lv_at hl 6 rfl) ?_
  refine lv_iconst (v := 1) X.1 X.2.1 (dk T_L_law_10 15 rfl) ic_1 ?_
  refine lv_iadd X.1 X.2.1 (dk T_L_law_10 16 rfl) ?_
  obtain ⟨g168, h⟩ := gd h
  refine va_sld X.1 X.2.1 hX hbl hbA Y.2 (inp g168) (dk T_L_law_10 17 rfl) ?_
  refine lv_aload_n X.1 X.2.1 (dk T_L_law_10 18 rfl) rfl (lv_at hl 1 rfl) ?_
  refine lv_iload X.1 X.2.1 (dk T_L_law_10 19 rfl) (lv_at hl 6 rfl) ?_
  refine lv_iconst (v := 2) X.1 X.2.1 (dk T_L_law_10 20 rfl) ic_2 ?_
  refine lv_iadd X.1 X.2.1 (dk T_L_law_10 21 rfl) ?_
  obtain ⟨g169, h⟩ := gd h
  refine va_sld X.1 X.2.1 hX hbl hbA Y.2 (inp g169) (dk T_L_law_10 22 rfl) ?_
  refine lv_aload_n X.1 X.2.1 (dk T_L_law_10 23 rfl) rfl (lv_at hl 1 rfl) ?_
  refine lv_iload X.1 X.2.1 (dk T_L_law_10 24 rfl) (lv_at hl 6 rfl) ?_
  refine lv_iconst (v := 3) X.1 X.2.1 (dk T_L_law_10 25 rfl) ic_3 ?_
  refine lv_iadd X.1 X.2.1 (dk T_L_law_10 26 rfl) ?_
  obtain ⟨g170, h⟩ := gd h
  refine va_sld X.1 X.2.1 hX hbl hbA Y.2 (inp g170) (dk T_L_law_10 27 rfl) ?_
  obtain ⟨q171, hq171, h⟩ := bs h
  refine gvIx (rest := []) X Y (c_X11_remnant (xs (x5 + 1).toNatClampNeg) (xs (x5 + 2).toNatClampNeg) (xs (x5 + 3).toNatClampNeg) q167.2 hq171) cb_L_148 rfl hl.1 rfl rfl (Nat.le_of_ble_eq_true rfl) ⟨(Nat.le_of_ble_eq_true rfl), (Nat.le_of_ble_eq_true rfl)⟩ ⟨law_le hkc (by decide), law_le hnc (by decide)⟩ (dk T_L_law_10 28 rfl) (fun H locs Y => ?_)
  refine lv_istore (lv' := [(7, .int (q171.1)), (6, .int (q167.1)), (0, .ref (b)), (1, .ref (g.2.2 (0))), (2, .ref (g.2.2 (101))), (3, .ref (g.2.2 (122))), (4, .ref (g.2.2 (123))), (5, .int (x5))]) X.1 X.2.1 (dk T_L_law_10 29 rfl) hl (Nat.le_of_ble_eq_true rfl) rfl (fun ls hl => ?_)
  refine lv_aload_n X.1 X.2.1 (dk T_L_law_10 30 rfl) rfl (lv_at hl 4 rfl) ?_
  obtain ⟨q172, hq172, h⟩ := bs h
  refine gvIx (rest := []) X Y (c_X11_thrown q171.2 hq172) cb_L_102 rfl hl.1 rfl rfl (Nat.le_of_ble_eq_true rfl) ⟨(Nat.le_of_ble_eq_true rfl), (Nat.le_of_ble_eq_true rfl)⟩ ⟨law_le hkc (by decide), law_le hnc (by decide)⟩ (dk T_L_law_10 31 rfl) (fun H locs Y => ?_)
  refine lv_iload X.1 X.2.1 (dk T_L_law_10 32 rfl) (lv_at hl 1 rfl) ?_
  refine lv_icmp_eq (tgt := 1121) X.1 X.2.1 (dk T_L_law_10 33 rfl) rfl (fun c173 => ?_) (fun c173 => ?_)
  · replace h := ipos c173 h
    refine lv_iload X.1 X.2.1 (dk T_L_law_10 36 rfl) (lv_at hl 1 rfl) ?_
    refine lv_if_ne (tgt := 1138) X.1 X.2.1 (dk T_L_law_10 37 rfl) rfl (fun c174 => ?_) (fun c174 => ?_)
    · replace h := ineg c174 h
      exact w_L_law_j1138 X TX hst hX hbl hbA hkc hnc x5 q171.2 KB KX Y (lv_sub hl [2, 3, 4, 5, 6, 7] rfl) h
    · replace h := ipos c174 h
      refine lv_aload_n X.1 X.2.1 (dk T_L_law_10 38 rfl) rfl (lv_at hl 5 rfl) ?_
      refine lv_iconst (v := 0) X.1 X.2.1 (dk T_L_law_10 39 rfl) ic_0 ?_
      obtain ⟨g175, h⟩ := gd h
      refine gll X Y rfl (inp g175) (dk T_L_law_10 40 rfl) ?_
      refine lv_iload X.1 X.2.1 (dk T_L_law_10 41 rfl) (lv_at hl 0 rfl) ?_
      refine lv_i2l X.1 X.2.1 (dk T_L_law_10 42 rfl) rfl ?_
      refine W.lcmp X.1 X.2.1 (dk T_L_law_10 43 rfl) ?_
      refine lv_if_eq (tgt := 1138) X.1 X.2.1 (dk T_L_law_10 44 rfl) rfl (fun c176 => ?_) (fun c176 => ?_)
      · replace h := ipos c176 h
        exact w_L_law_j1138 X TX hst hX hbl hbA hkc hnc x5 q171.2 KB KX Y (lv_sub hl [2, 3, 4, 5, 6, 7] rfl) h
      · replace h := ineg c176 h
        cases h
  · replace h := ineg c173 h
    cases h
def f_L_law_j1206 (xs : Nat → Int32) (L : Nat) (x5 : Int32) (σ : St) : Option ((Int32 × St) ⊕ St) :=
  f_L_law_j1667 xs L x5 σ
set_option maxHeartbeats 4000000 in
set_option maxRecDepth 100000 in
theorem w_L_law_j1206 (X : Cx g RL cL_law 8 (some .boolean) p s m args meth c) (TX : TXs g (GA g s.heap.size) s s.heap) (hst : l.stackTraces = false) {b L : Nat} {xs : Nat → Int32} (hX : va_X b L xs s s.heap) (hbl : b < s.heap.size) (hbA : ¬ GA g s.heap.size b) {kc nc : Nat} (hkc : kc + 4 ≤ room_1.cells) (hnc : nc + 24 ≤ room_1.slots) (x5 : Int32) (σ : St) {w : (Int32 × St) ⊕ St} (KB : ∀ (v0_ : Int32) (v1_ : St), w = .inl (v0_, v1_) → ∀ (H : Heap) (locs : List Loc) (ls : Array Slot), Wd g s v1_ H locs → lv_has ls 8 [(0, .ref (b)), (1, .ref (g.2.2 (0))), (2, .ref (g.2.2 (101))), (3, .ref (g.2.2 (122))), (4, .ref (g.2.2 (123))), (5, .int (v0_))] → W p l e room_1 s m args below meth c H locs (kc + 4) (nc + 24) Q (F0 m 28 ls [])) (KX : ∀ (v : St), w = .inr v → ∀ (H : Heap) (locs : List Loc) (ls : Array Slot), Wd g s v H locs → lv_has ls 8 [(0, .ref (b))] → W p l e room_1 s m args below meth c H locs (kc) (nc) Q (F0 m 1673 ls [])) {H : Heap} {locs : List Loc} {ls : Array Slot} (Y : Wd g s σ H locs) (hl : lv_has ls 8 [(0, .ref (b)), (1, .ref (g.2.2 (0))), (2, .ref (g.2.2 (101))), (3, .ref (g.2.2 (122))), (4, .ref (g.2.2 (123))), (5, .int (x5))]) (h : f_L_law_j1206 xs L x5 σ = some w) : W p l e room_1 s m args below meth c H locs (kc + 3) (nc + 18) Q (F0 m 1206 ls []) := by
  unfold f_L_law_j1206 at h
  refine lv_goto (tgt := 1667) X.1 X.2.1 (dk T_L_law_11 28 rfl) rfl ?_
  refine W.widen (k := kc + 4) (n := nc + 24) (by omega) (by omega) ?_
  exact w_L_law_j1667 X TX hst hX hbl hbA hkc hnc x5 σ KB KX Y (lv_sub hl [0, 1, 2, 3, 4, 5] rfl) h
def f_L_law_j1141 (xs : Nat → Int32) (L : Nat) (x5 : Int32) (σ : St) : Option ((Int32 × St) ⊕ St) :=
  chk (inb (x5 + 1) L) (chk (inb (x5 + 2) L) ((f_L_keep (xs (x5 + 1).toNatClampNeg) (xs (x5 + 2).toNatClampNeg) σ).bind fun q180 => chk (inb (x5 + 1) L) (chk (inb (x5 + 2) L) ((f_X11_keep (xs (x5 + 1).toNatClampNeg) (xs (x5 + 2).toNatClampNeg) q180.2).bind fun q183 => (f_X11_thrown q183.2).bind fun q184 => if q184 = q180.1 then if q180.1 = 0 then chk (inb 0 1) (if (lg_cmp ((q183.2 122 (0 : Int32).toNatClampNeg).toInt64) q183.1.toInt64) = 0 then f_L_law_j1206 xs L x5 q183.2 else none) else f_L_law_j1206 xs L x5 q183.2 else none))))
set_option maxHeartbeats 4000000 in
set_option maxRecDepth 100000 in
theorem w_L_law_j1141 (X : Cx g RL cL_law 8 (some .boolean) p s m args meth c) (TX : TXs g (GA g s.heap.size) s s.heap) (hst : l.stackTraces = false) {b L : Nat} {xs : Nat → Int32} (hX : va_X b L xs s s.heap) (hbl : b < s.heap.size) (hbA : ¬ GA g s.heap.size b) {kc nc : Nat} (hkc : kc + 4 ≤ room_1.cells) (hnc : nc + 24 ≤ room_1.slots) (x5 : Int32) (σ : St) {w : (Int32 × St) ⊕ St} (KB : ∀ (v0_ : Int32) (v1_ : St), w = .inl (v0_, v1_) → ∀ (H : Heap) (locs : List Loc) (ls : Array Slot), Wd g s v1_ H locs → lv_has ls 8 [(0, .ref (b)), (1, .ref (g.2.2 (0))), (2, .ref (g.2.2 (101))), (3, .ref (g.2.2 (122))), (4, .ref (g.2.2 (123))), (5, .int (v0_))] → W p l e room_1 s m args below meth c H locs (kc + 4) (nc + 24) Q (F0 m 28 ls [])) (KX : ∀ (v : St), w = .inr v → ∀ (H : Heap) (locs : List Loc) (ls : Array Slot), Wd g s v H locs → lv_has ls 8 [(0, .ref (b))] → W p l e room_1 s m args below meth c H locs (kc) (nc) Q (F0 m 1673 ls [])) {H : Heap} {locs : List Loc} {ls : Array Slot} (Y : Wd g s σ H locs) (hl : lv_has ls 8 [(0, .ref (b)), (1, .ref (g.2.2 (0))), (2, .ref (g.2.2 (101))), (3, .ref (g.2.2 (122))), (4, .ref (g.2.2 (123))), (5, .int (x5))]) (h : f_L_law_j1141 xs L x5 σ = some w) : W p l e room_1 s m args below meth c H locs (kc) (nc) Q (F0 m 1141 ls []) := by
  unfold f_L_law_j1141 at h
  refine lv_aload_n X.1 X.2.1 (dk T_L_law_10 48 rfl) rfl (lv_at hl 1 rfl) ?_
  refine lv_aload_n X.1 X.2.1 (dk T_L_law_10 49 rfl) rfl (lv_at hl 0 rfl) ?_
  refine lv_iload X.1 X.2.1 (dk T_L_law_10 50 rfl) (lv_at hl 5 rfl) ?_
  refine lv_iconst (v := 1) X.1 X.2.1 (dk T_L_law_10 51 rfl) ic_1 ?_
  refine lv_iadd X.1 X.2.1 (dk T_L_law_10 52 rfl) ?_
  obtain ⟨g178, h⟩ := gd h
  refine va_sld X.1 X.2.1 hX hbl hbA Y.2 (inp g178) (dk T_L_law_10 53 rfl) ?_
  refine lv_aload_n X.1 X.2.1 (dk T_L_law_10 54 rfl) rfl (lv_at hl 0 rfl) ?_
  refine lv_iload X.1 X.2.1 (dk T_L_law_10 55 rfl) (lv_at hl 5 rfl) ?_
  refine lv_iconst (v := 2) X.1 X.2.1 (dk T_L_law_10 56 rfl) ic_2 ?_
  refine lv_iadd X.1 X.2.1 (dk T_L_law_10 57 rfl) ?_
  obtain ⟨g179, h⟩ := gd h
  refine va_sld X.1 X.2.1 hX hbl hbA Y.2 (inp g179) (dk T_L_law_10 58 rfl) ?_
  refine lv_aload_n X.1 X.2.1 (dk T_L_law_10 59 rfl) rfl (lv_at hl 3 rfl) ?_
  obtain ⟨q180, hq180, h⟩ := bs h
  refine gsH (rest := []) X TX hst Y (c_L_keep (xs (x5 + 1).toNatClampNeg) (xs (x5 + 2).toNatClampNeg) σ hq180) cb_L_149 hl.1 rfl rfl (Nat.le_of_ble_eq_true rfl) ⟨(Nat.le_of_ble_eq_true rfl), (Nat.le_of_ble_eq_true rfl)⟩ ⟨law_le hkc (by decide), law_le hnc (by decide)⟩ (dk T_L_law_10 60 rfl) (fun H locs Y => ?_)
  refine lv_istore (lv' := [(6, .int (q180.1)), (0, .ref (b)), (1, .ref (g.2.2 (0))), (2, .ref (g.2.2 (101))), (3, .ref (g.2.2 (122))), (4, .ref (g.2.2 (123))), (5, .int (x5))]) X.1 X.2.1 (dk T_L_law_10 61 rfl) hl (Nat.le_of_ble_eq_true rfl) rfl (fun ls hl => ?_)
  refine lv_aload_n X.1 X.2.1 (dk T_L_law_10 62 rfl) rfl (lv_at hl 3 rfl) ?_
  refine lv_aload_n X.1 X.2.1 (dk T_L_law_10 63 rfl) rfl (lv_at hl 1 rfl) ?_
  refine lv_iload X.1 X.2.1 (dk T_L_law_11 0 rfl) (lv_at hl 6 rfl) ?_
  refine lv_iconst (v := 1) X.1 X.2.1 (dk T_L_law_11 1 rfl) ic_1 ?_
  refine lv_iadd X.1 X.2.1 (dk T_L_law_11 2 rfl) ?_
  obtain ⟨g181, h⟩ := gd h
  refine va_sld X.1 X.2.1 hX hbl hbA Y.2 (inp g181) (dk T_L_law_11 3 rfl) ?_
  refine lv_aload_n X.1 X.2.1 (dk T_L_law_11 4 rfl) rfl (lv_at hl 1 rfl) ?_
  refine lv_iload X.1 X.2.1 (dk T_L_law_11 5 rfl) (lv_at hl 6 rfl) ?_
  refine lv_iconst (v := 2) X.1 X.2.1 (dk T_L_law_11 6 rfl) ic_2 ?_
  refine lv_iadd X.1 X.2.1 (dk T_L_law_11 7 rfl) ?_
  obtain ⟨g182, h⟩ := gd h
  refine va_sld X.1 X.2.1 hX hbl hbA Y.2 (inp g182) (dk T_L_law_11 8 rfl) ?_
  obtain ⟨q183, hq183, h⟩ := bs h
  refine gvIx (rest := []) X Y (c_X11_keep (xs (x5 + 1).toNatClampNeg) (xs (x5 + 2).toNatClampNeg) q180.2 hq183) cb_L_151 rfl hl.1 rfl rfl (Nat.le_of_ble_eq_true rfl) ⟨(Nat.le_of_ble_eq_true rfl), (Nat.le_of_ble_eq_true rfl)⟩ ⟨law_le hkc (by decide), law_le hnc (by decide)⟩ (dk T_L_law_11 9 rfl) (fun H locs Y => ?_)
  refine lv_istore (lv' := [(7, .int (q183.1)), (6, .int (q180.1)), (0, .ref (b)), (1, .ref (g.2.2 (0))), (2, .ref (g.2.2 (101))), (3, .ref (g.2.2 (122))), (4, .ref (g.2.2 (123))), (5, .int (x5))]) X.1 X.2.1 (dk T_L_law_11 10 rfl) hl (Nat.le_of_ble_eq_true rfl) rfl (fun ls hl => ?_)
  refine lv_aload_n X.1 X.2.1 (dk T_L_law_11 11 rfl) rfl (lv_at hl 4 rfl) ?_
  obtain ⟨q184, hq184, h⟩ := bs h
  refine gvIx (rest := []) X Y (c_X11_thrown q183.2 hq184) cb_L_102 rfl hl.1 rfl rfl (Nat.le_of_ble_eq_true rfl) ⟨(Nat.le_of_ble_eq_true rfl), (Nat.le_of_ble_eq_true rfl)⟩ ⟨law_le hkc (by decide), law_le hnc (by decide)⟩ (dk T_L_law_11 12 rfl) (fun H locs Y => ?_)
  refine lv_iload X.1 X.2.1 (dk T_L_law_11 13 rfl) (lv_at hl 1 rfl) ?_
  refine lv_icmp_eq (tgt := 1189) X.1 X.2.1 (dk T_L_law_11 14 rfl) rfl (fun c185 => ?_) (fun c185 => ?_)
  · replace h := ipos c185 h
    refine lv_iload X.1 X.2.1 (dk T_L_law_11 17 rfl) (lv_at hl 1 rfl) ?_
    refine lv_if_ne (tgt := 1206) X.1 X.2.1 (dk T_L_law_11 18 rfl) rfl (fun c186 => ?_) (fun c186 => ?_)
    · replace h := ineg c186 h
      exact w_L_law_j1206 X TX hst hX hbl hbA hkc hnc x5 q183.2 KB KX Y (lv_sub hl [2, 3, 4, 5, 6, 7] rfl) h
    · replace h := ipos c186 h
      refine lv_aload_n X.1 X.2.1 (dk T_L_law_11 19 rfl) rfl (lv_at hl 5 rfl) ?_
      refine lv_iconst (v := 0) X.1 X.2.1 (dk T_L_law_11 20 rfl) ic_0 ?_
      obtain ⟨g187, h⟩ := gd h
      refine gll X Y rfl (inp g187) (dk T_L_law_11 21 rfl) ?_
      refine lv_iload X.1 X.2.1 (dk T_L_law_11 22 rfl) (lv_at hl 0 rfl) ?_
      refine lv_i2l X.1 X.2.1 (dk T_L_law_11 23 rfl) rfl ?_
      refine W.lcmp X.1 X.2.1 (dk T_L_law_11 24 rfl) ?_
      refine lv_if_eq (tgt := 1206) X.1 X.2.1 (dk T_L_law_11 25 rfl) rfl (fun c188 => ?_) (fun c188 => ?_)
      · replace h := ipos c188 h
        exact w_L_law_j1206 X TX hst hX hbl hbA hkc hnc x5 q183.2 KB KX Y (lv_sub hl [2, 3, 4, 5, 6, 7] rfl) h
      · replace h := ineg c188 h
        cases h
  · replace h := ineg c185 h
    cases h
def f_L_law_j1286 (xs : Nat → Int32) (L : Nat) (x5 : Int32) (σ : St) : Option ((Int32 × St) ⊕ St) :=
  f_L_law_j1667 xs L x5 σ
set_option maxHeartbeats 4000000 in
set_option maxRecDepth 100000 in
theorem w_L_law_j1286 (X : Cx g RL cL_law 8 (some .boolean) p s m args meth c) (TX : TXs g (GA g s.heap.size) s s.heap) (hst : l.stackTraces = false) {b L : Nat} {xs : Nat → Int32} (hX : va_X b L xs s s.heap) (hbl : b < s.heap.size) (hbA : ¬ GA g s.heap.size b) {kc nc : Nat} (hkc : kc + 4 ≤ room_1.cells) (hnc : nc + 24 ≤ room_1.slots) (x5 : Int32) (σ : St) {w : (Int32 × St) ⊕ St} (KB : ∀ (v0_ : Int32) (v1_ : St), w = .inl (v0_, v1_) → ∀ (H : Heap) (locs : List Loc) (ls : Array Slot), Wd g s v1_ H locs → lv_has ls 8 [(0, .ref (b)), (1, .ref (g.2.2 (0))), (2, .ref (g.2.2 (101))), (3, .ref (g.2.2 (122))), (4, .ref (g.2.2 (123))), (5, .int (v0_))] → W p l e room_1 s m args below meth c H locs (kc + 4) (nc + 24) Q (F0 m 28 ls [])) (KX : ∀ (v : St), w = .inr v → ∀ (H : Heap) (locs : List Loc) (ls : Array Slot), Wd g s v H locs → lv_has ls 8 [(0, .ref (b))] → W p l e room_1 s m args below meth c H locs (kc) (nc) Q (F0 m 1673 ls [])) {H : Heap} {locs : List Loc} {ls : Array Slot} (Y : Wd g s σ H locs) (hl : lv_has ls 8 [(0, .ref (b)), (1, .ref (g.2.2 (0))), (2, .ref (g.2.2 (101))), (3, .ref (g.2.2 (122))), (4, .ref (g.2.2 (123))), (5, .int (x5))]) (h : f_L_law_j1286 xs L x5 σ = some w) : W p l e room_1 s m args below meth c H locs (kc + 2) (nc + 12) Q (F0 m 1286 ls []) := by
  unfold f_L_law_j1286 at h
  refine lv_goto (tgt := 1667) X.1 X.2.1 (dk T_L_law_12 19 rfl) rfl ?_
  refine W.widen (k := kc + 4) (n := nc + 24) (by omega) (by omega) ?_
  exact w_L_law_j1667 X TX hst hX hbl hbA hkc hnc x5 σ KB KX Y (lv_sub hl [0, 1, 2, 3, 4, 5] rfl) h
def f_L_law_j1209 (xs : Nat → Int32) (L : Nat) (x5 : Int32) (σ : St) : Option ((Int32 × St) ⊕ St) :=
  chk (inb (x5 + 1) L) (chk (inb (x5 + 2) L) (chk (inb (x5 + 3) L) ((f_L_way (xs (x5 + 1).toNatClampNeg) (xs (x5 + 2).toNatClampNeg) (xs (x5 + 3).toNatClampNeg) σ).bind fun q193 => chk (inb (x5 + 1) L) (chk (inb (x5 + 2) L) (chk (inb (x5 + 3) L) ((f_X11_way (xs (x5 + 1).toNatClampNeg) (xs (x5 + 2).toNatClampNeg) (xs (x5 + 3).toNatClampNeg) q193.2).bind fun q197 => (f_X11_thrown q197.2).bind fun q198 => if q198 = q193.1 then if q193.1 = 0 then chk (inb 0 1) (if (lg_cmp ((q197.2 122 (0 : Int32).toNatClampNeg).toInt64) q197.1.toInt64) = 0 then f_L_law_j1286 xs L x5 q197.2 else none) else f_L_law_j1286 xs L x5 q197.2 else none))))))
set_option maxHeartbeats 4000000 in
set_option maxRecDepth 100000 in
theorem w_L_law_j1209 (X : Cx g RL cL_law 8 (some .boolean) p s m args meth c) (TX : TXs g (GA g s.heap.size) s s.heap) (hst : l.stackTraces = false) {b L : Nat} {xs : Nat → Int32} (hX : va_X b L xs s s.heap) (hbl : b < s.heap.size) (hbA : ¬ GA g s.heap.size b) {kc nc : Nat} (hkc : kc + 4 ≤ room_1.cells) (hnc : nc + 24 ≤ room_1.slots) (x5 : Int32) (σ : St) {w : (Int32 × St) ⊕ St} (KB : ∀ (v0_ : Int32) (v1_ : St), w = .inl (v0_, v1_) → ∀ (H : Heap) (locs : List Loc) (ls : Array Slot), Wd g s v1_ H locs → lv_has ls 8 [(0, .ref (b)), (1, .ref (g.2.2 (0))), (2, .ref (g.2.2 (101))), (3, .ref (g.2.2 (122))), (4, .ref (g.2.2 (123))), (5, .int (v0_))] → W p l e room_1 s m args below meth c H locs (kc + 4) (nc + 24) Q (F0 m 28 ls [])) (KX : ∀ (v : St), w = .inr v → ∀ (H : Heap) (locs : List Loc) (ls : Array Slot), Wd g s v H locs → lv_has ls 8 [(0, .ref (b))] → W p l e room_1 s m args below meth c H locs (kc) (nc) Q (F0 m 1673 ls [])) {H : Heap} {locs : List Loc} {ls : Array Slot} (Y : Wd g s σ H locs) (hl : lv_has ls 8 [(0, .ref (b)), (1, .ref (g.2.2 (0))), (2, .ref (g.2.2 (101))), (3, .ref (g.2.2 (122))), (4, .ref (g.2.2 (123))), (5, .int (x5))]) (h : f_L_law_j1209 xs L x5 σ = some w) : W p l e room_1 s m args below meth c H locs (kc) (nc) Q (F0 m 1209 ls []) := by
  unfold f_L_law_j1209 at h
  refine lv_aload_n X.1 X.2.1 (dk T_L_law_11 29 rfl) rfl (lv_at hl 1 rfl) ?_
  refine lv_aload_n X.1 X.2.1 (dk T_L_law_11 30 rfl) rfl (lv_at hl 0 rfl) ?_
  refine lv_iload X.1 X.2.1 (dk T_L_law_11 31 rfl) (lv_at hl 5 rfl) ?_
  refine lv_iconst (v := 1) X.1 X.2.1 (dk T_L_law_11 32 rfl) ic_1 ?_
  refine lv_iadd X.1 X.2.1 (dk T_L_law_11 33 rfl) ?_
  obtain ⟨g190, h⟩ := gd h
  refine va_sld X.1 X.2.1 hX hbl hbA Y.2 (inp g190) (dk T_L_law_11 34 rfl) ?_
  refine lv_aload_n X.1 X.2.1 (dk T_L_law_11 35 rfl) rfl (lv_at hl 0 rfl) ?_
  refine lv_iload X.1 X.2.1 (dk T_L_law_11 36 rfl) (lv_at hl 5 rfl) ?_
  refine lv_iconst (v := 2) X.1 X.2.1 (dk T_L_law_11 37 rfl) ic_2 ?_
  refine lv_iadd X.1 X.2.1 (dk T_L_law_11 38 rfl) ?_
  obtain ⟨g191, h⟩ := gd h
  refine va_sld X.1 X.2.1 hX hbl hbA Y.2 (inp g191) (dk T_L_law_11 39 rfl) ?_
  refine lv_aload_n X.1 X.2.1 (dk T_L_law_11 40 rfl) rfl (lv_at hl 0 rfl) ?_
  refine lv_iload X.1 X.2.1 (dk T_L_law_11 41 rfl) (lv_at hl 5 rfl) ?_
  refine lv_iconst (v := 3) X.1 X.2.1 (dk T_L_law_11 42 rfl) ic_3 ?_
  refine lv_iadd X.1 X.2.1 (dk T_L_law_11 43 rfl) ?_
  obtain ⟨g192, h⟩ := gd h
  refine va_sld X.1 X.2.1 hX hbl hbA Y.2 (inp g192) (dk T_L_law_11 44 rfl) ?_
  refine lv_aload_n X.1 X.2.1 (dk T_L_law_11 45 rfl) rfl (lv_at hl 3 rfl) ?_
  obtain ⟨q193, hq193, h⟩ := bs h
  refine gsH (rest := []) X TX hst Y (c_L_way (xs (x5 + 1).toNatClampNeg) (xs (x5 + 2).toNatClampNeg) (xs (x5 + 3).toNatClampNeg) σ hq193) cb_L_152 hl.1 rfl rfl (Nat.le_of_ble_eq_true rfl) ⟨(Nat.le_of_ble_eq_true rfl), (Nat.le_of_ble_eq_true rfl)⟩ ⟨law_le hkc (by decide), law_le hnc (by decide)⟩ (dk T_L_law_11 46 rfl) (fun H locs Y => ?_)
  refine lv_istore (lv' := [(6, .int (q193.1)), (0, .ref (b)), (1, .ref (g.2.2 (0))), (2, .ref (g.2.2 (101))), (3, .ref (g.2.2 (122))), (4, .ref (g.2.2 (123))), (5, .int (x5))]) X.1 X.2.1 (dk T_L_law_11 47 rfl) hl (Nat.le_of_ble_eq_true rfl) rfl (fun ls hl => ?_)
  refine lv_aload_n X.1 X.2.1 (dk T_L_law_11 48 rfl) rfl (lv_at hl 3 rfl) ?_
  refine lv_aload_n X.1 X.2.1 (dk T_L_law_11 49 rfl) rfl (lv_at hl 1 rfl) ?_
  refine lv_iload X.1 X.2.1 (dk T_L_law_11 50 rfl) (lv_at hl 6 rfl) ?_
  refine lv_iconst (v := 1) X.1 X.2.1 (dk T_L_law_11 51 rfl) ic_1 ?_
  refine lv_iadd X.1 X.2.1 (dk T_L_law_11 52 rfl) ?_
  obtain ⟨g194, h⟩ := gd h
  refine va_sld X.1 X.2.1 hX hbl hbA Y.2 (inp g194) (dk T_L_law_11 53 rfl) ?_
  refine lv_aload_n X.1 X.2.1 (dk T_L_law_11 54 rfl) rfl (lv_at hl 1 rfl) ?_
  refine lv_iload X.1 X.2.1 (dk T_L_law_11 55 rfl) (lv_at hl 6 rfl) ?_
  refine lv_iconst (v := 2) X.1 X.2.1 (dk T_L_law_11 56 rfl) ic_2 ?_
  refine lv_iadd X.1 X.2.1 (dk T_L_law_11 57 rfl) ?_
  obtain ⟨g195, h⟩ := gd h
  refine va_sld X.1 X.2.1 hX hbl hbA Y.2 (inp g195) (dk T_L_law_11 58 rfl) ?_
  refine lv_aload_n X.1 X.2.1 (dk T_L_law_11 59 rfl) rfl (lv_at hl 1 rfl) ?_
  refine lv_iload X.1 X.2.1 (dk T_L_law_11 60 rfl) (lv_at hl 6 rfl) ?_
  refine lv_iconst (v := 3) X.1 X.2.1 (dk T_L_law_11 61 rfl) ic_3 ?_
  refine lv_iadd X.1 X.2.1 (dk T_L_law_11 62 rfl) ?_
  obtain ⟨g196, h⟩ := gd h
  refine va_sld X.1 X.2.1 hX hbl hbA Y.2 (inp g196) (dk T_L_law_11 63 rfl) ?_
  obtain ⟨q197, hq197, h⟩ := bs h
  refine gvIx (rest := []) X Y (c_X11_way (xs (x5 + 1).toNatClampNeg) (xs (x5 + 2).toNatClampNeg) (xs (x5 + 3).toNatClampNeg) q193.2 hq197) cb_L_154 rfl hl.1 rfl rfl (Nat.le_of_ble_eq_true rfl) ⟨(Nat.le_of_ble_eq_true rfl), (Nat.le_of_ble_eq_true rfl)⟩ ⟨law_le hkc (by decide), law_le hnc (by decide)⟩ (dk T_L_law_12 0 rfl) (fun H locs Y => ?_)
  refine lv_istore (lv' := [(7, .int (q197.1)), (6, .int (q193.1)), (0, .ref (b)), (1, .ref (g.2.2 (0))), (2, .ref (g.2.2 (101))), (3, .ref (g.2.2 (122))), (4, .ref (g.2.2 (123))), (5, .int (x5))]) X.1 X.2.1 (dk T_L_law_12 1 rfl) hl (Nat.le_of_ble_eq_true rfl) rfl (fun ls hl => ?_)
  refine lv_aload_n X.1 X.2.1 (dk T_L_law_12 2 rfl) rfl (lv_at hl 4 rfl) ?_
  obtain ⟨q198, hq198, h⟩ := bs h
  refine gvIx (rest := []) X Y (c_X11_thrown q197.2 hq198) cb_L_102 rfl hl.1 rfl rfl (Nat.le_of_ble_eq_true rfl) ⟨(Nat.le_of_ble_eq_true rfl), (Nat.le_of_ble_eq_true rfl)⟩ ⟨law_le hkc (by decide), law_le hnc (by decide)⟩ (dk T_L_law_12 3 rfl) (fun H locs Y => ?_)
  refine lv_iload X.1 X.2.1 (dk T_L_law_12 4 rfl) (lv_at hl 1 rfl) ?_
  refine lv_icmp_eq (tgt := 1269) X.1 X.2.1 (dk T_L_law_12 5 rfl) rfl (fun c199 => ?_) (fun c199 => ?_)
  · replace h := ipos c199 h
    refine lv_iload X.1 X.2.1 (dk T_L_law_12 8 rfl) (lv_at hl 1 rfl) ?_
    refine lv_if_ne (tgt := 1286) X.1 X.2.1 (dk T_L_law_12 9 rfl) rfl (fun c200 => ?_) (fun c200 => ?_)
    · replace h := ineg c200 h
      exact w_L_law_j1286 X TX hst hX hbl hbA hkc hnc x5 q197.2 KB KX Y (lv_sub hl [2, 3, 4, 5, 6, 7] rfl) h
    · replace h := ipos c200 h
      refine lv_aload_n X.1 X.2.1 (dk T_L_law_12 10 rfl) rfl (lv_at hl 5 rfl) ?_
      refine lv_iconst (v := 0) X.1 X.2.1 (dk T_L_law_12 11 rfl) ic_0 ?_
      obtain ⟨g201, h⟩ := gd h
      refine gll X Y rfl (inp g201) (dk T_L_law_12 12 rfl) ?_
      refine lv_iload X.1 X.2.1 (dk T_L_law_12 13 rfl) (lv_at hl 0 rfl) ?_
      refine lv_i2l X.1 X.2.1 (dk T_L_law_12 14 rfl) rfl ?_
      refine W.lcmp X.1 X.2.1 (dk T_L_law_12 15 rfl) ?_
      refine lv_if_eq (tgt := 1286) X.1 X.2.1 (dk T_L_law_12 16 rfl) rfl (fun c202 => ?_) (fun c202 => ?_)
      · replace h := ipos c202 h
        exact w_L_law_j1286 X TX hst hX hbl hbA hkc hnc x5 q197.2 KB KX Y (lv_sub hl [2, 3, 4, 5, 6, 7] rfl) h
      · replace h := ineg c202 h
        cases h
  · replace h := ineg c199 h
    cases h
def f_L_law_j1352 (xs : Nat → Int32) (L : Nat) (x5 : Int32) (σ : St) : Option ((Int32 × St) ⊕ St) :=
  f_L_law_j1667 xs L x5 σ
set_option maxHeartbeats 4000000 in
set_option maxRecDepth 100000 in
theorem w_L_law_j1352 (X : Cx g RL cL_law 8 (some .boolean) p s m args meth c) (TX : TXs g (GA g s.heap.size) s s.heap) (hst : l.stackTraces = false) {b L : Nat} {xs : Nat → Int32} (hX : va_X b L xs s s.heap) (hbl : b < s.heap.size) (hbA : ¬ GA g s.heap.size b) {kc nc : Nat} (hkc : kc + 4 ≤ room_1.cells) (hnc : nc + 24 ≤ room_1.slots) (x5 : Int32) (σ : St) {w : (Int32 × St) ⊕ St} (KB : ∀ (v0_ : Int32) (v1_ : St), w = .inl (v0_, v1_) → ∀ (H : Heap) (locs : List Loc) (ls : Array Slot), Wd g s v1_ H locs → lv_has ls 8 [(0, .ref (b)), (1, .ref (g.2.2 (0))), (2, .ref (g.2.2 (101))), (3, .ref (g.2.2 (122))), (4, .ref (g.2.2 (123))), (5, .int (v0_))] → W p l e room_1 s m args below meth c H locs (kc + 4) (nc + 24) Q (F0 m 28 ls [])) (KX : ∀ (v : St), w = .inr v → ∀ (H : Heap) (locs : List Loc) (ls : Array Slot), Wd g s v H locs → lv_has ls 8 [(0, .ref (b))] → W p l e room_1 s m args below meth c H locs (kc) (nc) Q (F0 m 1673 ls [])) {H : Heap} {locs : List Loc} {ls : Array Slot} (Y : Wd g s σ H locs) (hl : lv_has ls 8 [(0, .ref (b)), (1, .ref (g.2.2 (0))), (2, .ref (g.2.2 (101))), (3, .ref (g.2.2 (122))), (4, .ref (g.2.2 (123))), (5, .int (x5))]) (h : f_L_law_j1352 xs L x5 σ = some w) : W p l e room_1 s m args below meth c H locs (kc + 1) (nc + 6) Q (F0 m 1352 ls []) := by
  unfold f_L_law_j1352 at h
  refine lv_goto (tgt := 1667) X.1 X.2.1 (dk T_L_law_12 56 rfl) rfl ?_
  refine W.widen (k := kc + 4) (n := nc + 24) (by omega) (by omega) ?_
  exact w_L_law_j1667 X TX hst hX hbl hbA hkc hnc x5 σ KB KX Y (lv_sub hl [0, 1, 2, 3, 4, 5] rfl) h
def f_L_law_j1289 (xs : Nat → Int32) (L : Nat) (x5 : Int32) (σ : St) : Option ((Int32 × St) ⊕ St) :=
  (f_L_usedShare σ).bind fun q204 => (f_X11_usedShare q204.2).bind fun q205 => (f_X11_thrown q205.2).bind fun q206 => if q206 = q204.1 then if q204.1 = 0 then chk (inb 0 1) (chk (nf64 (FP.f2d q205.1.toUInt32)) (if (Op.cmpValue (FP.dcmp (FP.f2d (q205.2 123 (0 : Int32).toNatClampNeg).toUInt32) (FP.f2d q205.1.toUInt32)) CmpOp.l) = 0 then f_L_law_j1352 xs L x5 q205.2 else chk (inb 0 1) (chk (inb 0 1) (if (Op.cmpValue (FP.dcmp (FP.f2d (q205.2 123 (0 : Int32).toNatClampNeg).toUInt32) (FP.f2d (q205.2 123 (0 : Int32).toNatClampNeg).toUInt32)) CmpOp.l) = 0 then none else if (Op.cmpValue (FP.fcmp q205.1.toUInt32 q205.1.toUInt32) CmpOp.l) = 0 then none else f_L_law_j1352 xs L x5 q205.2)))) else f_L_law_j1352 xs L x5 q205.2 else none
set_option maxHeartbeats 4000000 in
set_option maxRecDepth 100000 in
theorem w_L_law_j1289 (X : Cx g RL cL_law 8 (some .boolean) p s m args meth c) (TX : TXs g (GA g s.heap.size) s s.heap) (hst : l.stackTraces = false) {b L : Nat} {xs : Nat → Int32} (hX : va_X b L xs s s.heap) (hbl : b < s.heap.size) (hbA : ¬ GA g s.heap.size b) {kc nc : Nat} (hkc : kc + 4 ≤ room_1.cells) (hnc : nc + 24 ≤ room_1.slots) (x5 : Int32) (σ : St) {w : (Int32 × St) ⊕ St} (KB : ∀ (v0_ : Int32) (v1_ : St), w = .inl (v0_, v1_) → ∀ (H : Heap) (locs : List Loc) (ls : Array Slot), Wd g s v1_ H locs → lv_has ls 8 [(0, .ref (b)), (1, .ref (g.2.2 (0))), (2, .ref (g.2.2 (101))), (3, .ref (g.2.2 (122))), (4, .ref (g.2.2 (123))), (5, .int (v0_))] → W p l e room_1 s m args below meth c H locs (kc + 4) (nc + 24) Q (F0 m 28 ls [])) (KX : ∀ (v : St), w = .inr v → ∀ (H : Heap) (locs : List Loc) (ls : Array Slot), Wd g s v H locs → lv_has ls 8 [(0, .ref (b))] → W p l e room_1 s m args below meth c H locs (kc) (nc) Q (F0 m 1673 ls [])) {H : Heap} {locs : List Loc} {ls : Array Slot} (Y : Wd g s σ H locs) (hl : lv_has ls 8 [(0, .ref (b)), (1, .ref (g.2.2 (0))), (2, .ref (g.2.2 (101))), (3, .ref (g.2.2 (122))), (4, .ref (g.2.2 (123))), (5, .int (x5))]) (h : f_L_law_j1289 xs L x5 σ = some w) : W p l e room_1 s m args below meth c H locs (kc) (nc) Q (F0 m 1289 ls []) := by
  unfold f_L_law_j1289 at h
  refine lv_aload_n X.1 X.2.1 (dk T_L_law_12 20 rfl) rfl (lv_at hl 1 rfl) ?_
  refine lv_aload X.1 X.2.1 (dk T_L_law_12 21 rfl) (lv_at hl 4 rfl) ?_
  obtain ⟨q204, hq204, h⟩ := bs h
  refine gsH (rest := []) X TX hst Y (c_L_usedShare σ hq204) cb_L_155 hl.1 rfl rfl (Nat.le_of_ble_eq_true rfl) ⟨(Nat.le_of_ble_eq_true rfl), (Nat.le_of_ble_eq_true rfl)⟩ ⟨law_le hkc (by decide), law_le hnc (by decide)⟩ (dk T_L_law_12 22 rfl) (fun H locs Y => ?_)
  refine lv_istore (lv' := [(6, .int (q204.1)), (0, .ref (b)), (1, .ref (g.2.2 (0))), (2, .ref (g.2.2 (101))), (3, .ref (g.2.2 (122))), (4, .ref (g.2.2 (123))), (5, .int (x5))]) X.1 X.2.1 (dk T_L_law_12 23 rfl) hl (Nat.le_of_ble_eq_true rfl) rfl (fun ls hl => ?_)
  refine lv_aload_n X.1 X.2.1 (dk T_L_law_12 24 rfl) rfl (lv_at hl 3 rfl) ?_
  obtain ⟨q205, hq205, h⟩ := bs h
  refine gvFx (rest := []) X Y (c_X11_usedShare q204.2 hq205) cb_L_158 rfl hl.1 rfl rfl (Nat.le_of_ble_eq_true rfl) ⟨(Nat.le_of_ble_eq_true rfl), (Nat.le_of_ble_eq_true rfl)⟩ ⟨law_le hkc (by decide), law_le hnc (by decide)⟩ (dk T_L_law_12 25 rfl) (fun H locs Y => ?_)
  refine lv_fstore (lv' := [(7, .float (q205.1.toUInt32)), (6, .int (q204.1)), (0, .ref (b)), (1, .ref (g.2.2 (0))), (2, .ref (g.2.2 (101))), (3, .ref (g.2.2 (122))), (4, .ref (g.2.2 (123))), (5, .int (x5))]) X.1 X.2.1 (dk T_L_law_12 26 rfl) hl (Nat.le_of_ble_eq_true rfl) rfl (fun ls hl => ?_)
  refine lv_aload_n X.1 X.2.1 (dk T_L_law_12 27 rfl) rfl (lv_at hl 4 rfl) ?_
  obtain ⟨q206, hq206, h⟩ := bs h
  refine gvIx (rest := []) X Y (c_X11_thrown q205.2 hq206) cb_L_102 rfl hl.1 rfl rfl (Nat.le_of_ble_eq_true rfl) ⟨(Nat.le_of_ble_eq_true rfl), (Nat.le_of_ble_eq_true rfl)⟩ ⟨law_le hkc (by decide), law_le hnc (by decide)⟩ (dk T_L_law_12 28 rfl) (fun H locs Y => ?_)
  refine lv_iload X.1 X.2.1 (dk T_L_law_12 29 rfl) (lv_at hl 1 rfl) ?_
  refine lv_icmp_eq (tgt := 1314) X.1 X.2.1 (dk T_L_law_12 30 rfl) rfl (fun c207 => ?_) (fun c207 => ?_)
  · replace h := ipos c207 h
    refine lv_iload X.1 X.2.1 (dk T_L_law_12 33 rfl) (lv_at hl 1 rfl) ?_
    refine lv_if_ne (tgt := 1352) X.1 X.2.1 (dk T_L_law_12 34 rfl) rfl (fun c208 => ?_) (fun c208 => ?_)
    · replace h := ineg c208 h
      exact w_L_law_j1352 X TX hst hX hbl hbA hkc hnc x5 q205.2 KB KX Y (lv_sub hl [2, 3, 4, 5, 6, 7] rfl) h
    · replace h := ipos c208 h
      refine lv_aload X.1 X.2.1 (dk T_L_law_12 35 rfl) (lv_at hl 6 rfl) ?_
      refine lv_iconst (v := 0) X.1 X.2.1 (dk T_L_law_12 36 rfl) ic_0 ?_
      obtain ⟨g209, h⟩ := gd h
      refine gdl X Y rfl (inp g209) (dk T_L_law_12 37 rfl) ?_
      refine lv_fload X.1 X.2.1 (dk T_L_law_12 38 rfl) (lv_at hl 0 rfl) ?_
      obtain ⟨g210, h⟩ := gd h
      refine lv_f2d X.1 X.2.1 (dk T_L_law_12 39 rfl) (nf64p g210) ?_
      refine lv_dcmp X.1 X.2.1 (dk T_L_law_12 40 rfl) ?_
      refine lv_if_eq (tgt := 1352) X.1 X.2.1 (dk T_L_law_12 41 rfl) rfl (fun c211 => ?_) (fun c211 => ?_)
      · replace h := ipos c211 h
        exact w_L_law_j1352 X TX hst hX hbl hbA hkc hnc x5 q205.2 KB KX Y (lv_sub hl [2, 3, 4, 5, 6, 7] rfl) h
      · replace h := ineg c211 h
        refine lv_aload X.1 X.2.1 (dk T_L_law_12 42 rfl) (lv_at hl 6 rfl) ?_
        refine lv_iconst (v := 0) X.1 X.2.1 (dk T_L_law_12 43 rfl) ic_0 ?_
        obtain ⟨g212, h⟩ := gd h
        refine gdl X Y rfl (inp g212) (dk T_L_law_12 44 rfl) ?_
        refine lv_aload X.1 X.2.1 (dk T_L_law_12 45 rfl) (lv_at hl 6 rfl) ?_
        refine lv_iconst (v := 0) X.1 X.2.1 (dk T_L_law_12 46 rfl) ic_0 ?_
        obtain ⟨g213, h⟩ := gd h
        refine gdl X Y rfl (inp g213) (dk T_L_law_12 47 rfl) ?_
        refine lv_dcmp X.1 X.2.1 (dk T_L_law_12 48 rfl) ?_
        refine lv_if_eq (tgt := 1350) X.1 X.2.1 (dk T_L_law_12 49 rfl) rfl (fun c214 => ?_) (fun c214 => ?_)
        · replace h := ipos c214 h
          cases h
        · replace h := ineg c214 h
          refine lv_fload X.1 X.2.1 (dk T_L_law_12 50 rfl) (lv_at hl 0 rfl) ?_
          refine lv_fload X.1 X.2.1 (dk T_L_law_12 51 rfl) (lv_at hl 0 rfl) ?_
          refine lv_fcmp X.1 X.2.1 (dk T_L_law_12 52 rfl) ?_
          refine lv_if_ne (tgt := 1352) X.1 X.2.1 (dk T_L_law_12 53 rfl) rfl (fun c215 => ?_) (fun c215 => ?_)
          · replace h := ineg c215 h
            exact w_L_law_j1352 X TX hst hX hbl hbA hkc hnc x5 q205.2 KB KX Y (lv_sub hl [2, 3, 4, 5, 6, 7] rfl) h
          · replace h := ipos c215 h
            cases h
  · replace h := ineg c207 h
    cases h
def f_L_law_j1408 (xs : Nat → Int32) (L : Nat) (x5 : Int32) (σ : St) : Option ((Int32 × St) ⊕ St) :=
  f_L_law_j1667 xs L x5 σ
set_option maxHeartbeats 4000000 in
set_option maxRecDepth 100000 in
theorem w_L_law_j1408 (X : Cx g RL cL_law 8 (some .boolean) p s m args meth c) (TX : TXs g (GA g s.heap.size) s s.heap) (hst : l.stackTraces = false) {b L : Nat} {xs : Nat → Int32} (hX : va_X b L xs s s.heap) (hbl : b < s.heap.size) (hbA : ¬ GA g s.heap.size b) {kc nc : Nat} (hkc : kc + 4 ≤ room_1.cells) (hnc : nc + 24 ≤ room_1.slots) (x5 : Int32) (σ : St) {w : (Int32 × St) ⊕ St} (KB : ∀ (v0_ : Int32) (v1_ : St), w = .inl (v0_, v1_) → ∀ (H : Heap) (locs : List Loc) (ls : Array Slot), Wd g s v1_ H locs → lv_has ls 8 [(0, .ref (b)), (1, .ref (g.2.2 (0))), (2, .ref (g.2.2 (101))), (3, .ref (g.2.2 (122))), (4, .ref (g.2.2 (123))), (5, .int (v0_))] → W p l e room_1 s m args below meth c H locs (kc + 4) (nc + 24) Q (F0 m 28 ls [])) (KX : ∀ (v : St), w = .inr v → ∀ (H : Heap) (locs : List Loc) (ls : Array Slot), Wd g s v H locs → lv_has ls 8 [(0, .ref (b))] → W p l e room_1 s m args below meth c H locs (kc) (nc) Q (F0 m 1673 ls [])) {H : Heap} {locs : List Loc} {ls : Array Slot} (Y : Wd g s σ H locs) (hl : lv_has ls 8 [(0, .ref (b)), (1, .ref (g.2.2 (0))), (2, .ref (g.2.2 (101))), (3, .ref (g.2.2 (122))), (4, .ref (g.2.2 (123))), (5, .int (x5))]) (h : f_L_law_j1408 xs L x5 σ = some w) : W p l e room_1 s m args below meth c H locs (kc + 1) (nc + 6) Q (F0 m 1408 ls []) := by
  unfold f_L_law_j1408 at h
  refine lv_goto (tgt := 1667) X.1 X.2.1 (dk T_L_law_13 27 rfl) rfl ?_
  refine W.widen (k := kc + 4) (n := nc + 24) (by omega) (by omega) ?_
  exact w_L_law_j1667 X TX hst hX hbl hbA hkc hnc x5 σ KB KX Y (lv_sub hl [0, 1, 2, 3, 4, 5] rfl) h
def f_L_law_j1355 (xs : Nat → Int32) (L : Nat) (x5 : Int32) (σ : St) : Option ((Int32 × St) ⊕ St) :=
  chk (inb (x5 + 1) L) ((f_L_count (xs (x5 + 1).toNatClampNeg) σ).bind fun q218 => chk (inb (x5 + 1) L) ((f_X11_count (xs (x5 + 1).toNatClampNeg) q218.2).bind fun q220 => (f_X11_thrown q220.2).bind fun q221 => if q221 = q218.1 then if q218.1 = 0 then chk (inb 0 1) (if (lg_cmp ((q220.2 122 (0 : Int32).toNatClampNeg).toInt64) q220.1.toInt64) = 0 then f_L_law_j1408 xs L x5 q220.2 else none) else f_L_law_j1408 xs L x5 q220.2 else none))
set_option maxHeartbeats 4000000 in
set_option maxRecDepth 100000 in
theorem w_L_law_j1355 (X : Cx g RL cL_law 8 (some .boolean) p s m args meth c) (TX : TXs g (GA g s.heap.size) s s.heap) (hst : l.stackTraces = false) {b L : Nat} {xs : Nat → Int32} (hX : va_X b L xs s s.heap) (hbl : b < s.heap.size) (hbA : ¬ GA g s.heap.size b) {kc nc : Nat} (hkc : kc + 4 ≤ room_1.cells) (hnc : nc + 24 ≤ room_1.slots) (x5 : Int32) (σ : St) {w : (Int32 × St) ⊕ St} (KB : ∀ (v0_ : Int32) (v1_ : St), w = .inl (v0_, v1_) → ∀ (H : Heap) (locs : List Loc) (ls : Array Slot), Wd g s v1_ H locs → lv_has ls 8 [(0, .ref (b)), (1, .ref (g.2.2 (0))), (2, .ref (g.2.2 (101))), (3, .ref (g.2.2 (122))), (4, .ref (g.2.2 (123))), (5, .int (v0_))] → W p l e room_1 s m args below meth c H locs (kc + 4) (nc + 24) Q (F0 m 28 ls [])) (KX : ∀ (v : St), w = .inr v → ∀ (H : Heap) (locs : List Loc) (ls : Array Slot), Wd g s v H locs → lv_has ls 8 [(0, .ref (b))] → W p l e room_1 s m args below meth c H locs (kc) (nc) Q (F0 m 1673 ls [])) {H : Heap} {locs : List Loc} {ls : Array Slot} (Y : Wd g s σ H locs) (hl : lv_has ls 8 [(0, .ref (b)), (1, .ref (g.2.2 (0))), (2, .ref (g.2.2 (101))), (3, .ref (g.2.2 (122))), (4, .ref (g.2.2 (123))), (5, .int (x5))]) (h : f_L_law_j1355 xs L x5 σ = some w) : W p l e room_1 s m args below meth c H locs (kc) (nc) Q (F0 m 1355 ls []) := by
  unfold f_L_law_j1355 at h
  refine lv_aload_n X.1 X.2.1 (dk T_L_law_12 57 rfl) rfl (lv_at hl 1 rfl) ?_
  refine lv_aload_n X.1 X.2.1 (dk T_L_law_12 58 rfl) rfl (lv_at hl 0 rfl) ?_
  refine lv_iload X.1 X.2.1 (dk T_L_law_12 59 rfl) (lv_at hl 5 rfl) ?_
  refine lv_iconst (v := 1) X.1 X.2.1 (dk T_L_law_12 60 rfl) ic_1 ?_
  refine lv_iadd X.1 X.2.1 (dk T_L_law_12 61 rfl) ?_
  obtain ⟨g217, h⟩ := gd h
  refine va_sld X.1 X.2.1 hX hbl hbA Y.2 (inp g217) (dk T_L_law_12 62 rfl) ?_
  refine lv_aload_n X.1 X.2.1 (dk T_L_law_12 63 rfl) rfl (lv_at hl 3 rfl) ?_
  obtain ⟨q218, hq218, h⟩ := bs h
  refine gsH (rest := []) X TX hst Y (c_L_count (xs (x5 + 1).toNatClampNeg) σ hq218) cb_L_159 hl.1 rfl rfl (Nat.le_of_ble_eq_true rfl) ⟨(Nat.le_of_ble_eq_true rfl), (Nat.le_of_ble_eq_true rfl)⟩ ⟨law_le hkc (by decide), law_le hnc (by decide)⟩ (dk T_L_law_13 0 rfl) (fun H locs Y => ?_)
  refine lv_istore (lv' := [(6, .int (q218.1)), (0, .ref (b)), (1, .ref (g.2.2 (0))), (2, .ref (g.2.2 (101))), (3, .ref (g.2.2 (122))), (4, .ref (g.2.2 (123))), (5, .int (x5))]) X.1 X.2.1 (dk T_L_law_13 1 rfl) hl (Nat.le_of_ble_eq_true rfl) rfl (fun ls hl => ?_)
  refine lv_aload_n X.1 X.2.1 (dk T_L_law_13 2 rfl) rfl (lv_at hl 3 rfl) ?_
  refine lv_aload_n X.1 X.2.1 (dk T_L_law_13 3 rfl) rfl (lv_at hl 1 rfl) ?_
  refine lv_iload X.1 X.2.1 (dk T_L_law_13 4 rfl) (lv_at hl 6 rfl) ?_
  refine lv_iconst (v := 1) X.1 X.2.1 (dk T_L_law_13 5 rfl) ic_1 ?_
  refine lv_iadd X.1 X.2.1 (dk T_L_law_13 6 rfl) ?_
  obtain ⟨g219, h⟩ := gd h
  refine va_sld X.1 X.2.1 hX hbl hbA Y.2 (inp g219) (dk T_L_law_13 7 rfl) ?_
  obtain ⟨q220, hq220, h⟩ := bs h
  refine gvIx (rest := []) X Y (c_X11_count (xs (x5 + 1).toNatClampNeg) q218.2 hq220) cb_L_161 rfl hl.1 rfl rfl (Nat.le_of_ble_eq_true rfl) ⟨(Nat.le_of_ble_eq_true rfl), (Nat.le_of_ble_eq_true rfl)⟩ ⟨law_le hkc (by decide), law_le hnc (by decide)⟩ (dk T_L_law_13 8 rfl) (fun H locs Y => ?_)
  refine lv_istore (lv' := [(7, .int (q220.1)), (6, .int (q218.1)), (0, .ref (b)), (1, .ref (g.2.2 (0))), (2, .ref (g.2.2 (101))), (3, .ref (g.2.2 (122))), (4, .ref (g.2.2 (123))), (5, .int (x5))]) X.1 X.2.1 (dk T_L_law_13 9 rfl) hl (Nat.le_of_ble_eq_true rfl) rfl (fun ls hl => ?_)
  refine lv_aload_n X.1 X.2.1 (dk T_L_law_13 10 rfl) rfl (lv_at hl 4 rfl) ?_
  obtain ⟨q221, hq221, h⟩ := bs h
  refine gvIx (rest := []) X Y (c_X11_thrown q220.2 hq221) cb_L_102 rfl hl.1 rfl rfl (Nat.le_of_ble_eq_true rfl) ⟨(Nat.le_of_ble_eq_true rfl), (Nat.le_of_ble_eq_true rfl)⟩ ⟨law_le hkc (by decide), law_le hnc (by decide)⟩ (dk T_L_law_13 11 rfl) (fun H locs Y => ?_)
  refine lv_iload X.1 X.2.1 (dk T_L_law_13 12 rfl) (lv_at hl 1 rfl) ?_
  refine lv_icmp_eq (tgt := 1391) X.1 X.2.1 (dk T_L_law_13 13 rfl) rfl (fun c222 => ?_) (fun c222 => ?_)
  · replace h := ipos c222 h
    refine lv_iload X.1 X.2.1 (dk T_L_law_13 16 rfl) (lv_at hl 1 rfl) ?_
    refine lv_if_ne (tgt := 1408) X.1 X.2.1 (dk T_L_law_13 17 rfl) rfl (fun c223 => ?_) (fun c223 => ?_)
    · replace h := ineg c223 h
      exact w_L_law_j1408 X TX hst hX hbl hbA hkc hnc x5 q220.2 KB KX Y (lv_sub hl [2, 3, 4, 5, 6, 7] rfl) h
    · replace h := ipos c223 h
      refine lv_aload_n X.1 X.2.1 (dk T_L_law_13 18 rfl) rfl (lv_at hl 5 rfl) ?_
      refine lv_iconst (v := 0) X.1 X.2.1 (dk T_L_law_13 19 rfl) ic_0 ?_
      obtain ⟨g224, h⟩ := gd h
      refine gll X Y rfl (inp g224) (dk T_L_law_13 20 rfl) ?_
      refine lv_iload X.1 X.2.1 (dk T_L_law_13 21 rfl) (lv_at hl 0 rfl) ?_
      refine lv_i2l X.1 X.2.1 (dk T_L_law_13 22 rfl) rfl ?_
      refine W.lcmp X.1 X.2.1 (dk T_L_law_13 23 rfl) ?_
      refine lv_if_eq (tgt := 1408) X.1 X.2.1 (dk T_L_law_13 24 rfl) rfl (fun c225 => ?_) (fun c225 => ?_)
      · replace h := ipos c225 h
        exact w_L_law_j1408 X TX hst hX hbl hbA hkc hnc x5 q220.2 KB KX Y (lv_sub hl [2, 3, 4, 5, 6, 7] rfl) h
      · replace h := ineg c225 h
        cases h
  · replace h := ineg c222 h
    cases h
def f_L_law_j1466 (xs : Nat → Int32) (L : Nat) (x5 : Int32) (σ : St) : Option ((Int32 × St) ⊕ St) :=
  f_L_law_j1667 xs L x5 σ
set_option maxHeartbeats 4000000 in
set_option maxRecDepth 100000 in
theorem w_L_law_j1466 (X : Cx g RL cL_law 8 (some .boolean) p s m args meth c) (TX : TXs g (GA g s.heap.size) s s.heap) (hst : l.stackTraces = false) {b L : Nat} {xs : Nat → Int32} (hX : va_X b L xs s s.heap) (hbl : b < s.heap.size) (hbA : ¬ GA g s.heap.size b) {kc nc : Nat} (hkc : kc + 4 ≤ room_1.cells) (hnc : nc + 24 ≤ room_1.slots) (x5 : Int32) (σ : St) {w : (Int32 × St) ⊕ St} (KB : ∀ (v0_ : Int32) (v1_ : St), w = .inl (v0_, v1_) → ∀ (H : Heap) (locs : List Loc) (ls : Array Slot), Wd g s v1_ H locs → lv_has ls 8 [(0, .ref (b)), (1, .ref (g.2.2 (0))), (2, .ref (g.2.2 (101))), (3, .ref (g.2.2 (122))), (4, .ref (g.2.2 (123))), (5, .int (v0_))] → W p l e room_1 s m args below meth c H locs (kc + 4) (nc + 24) Q (F0 m 28 ls [])) (KX : ∀ (v : St), w = .inr v → ∀ (H : Heap) (locs : List Loc) (ls : Array Slot), Wd g s v H locs → lv_has ls 8 [(0, .ref (b))] → W p l e room_1 s m args below meth c H locs (kc) (nc) Q (F0 m 1673 ls [])) {H : Heap} {locs : List Loc} {ls : Array Slot} (Y : Wd g s σ H locs) (hl : lv_has ls 8 [(0, .ref (b)), (1, .ref (g.2.2 (0))), (2, .ref (g.2.2 (101))), (3, .ref (g.2.2 (122))), (4, .ref (g.2.2 (123))), (5, .int (x5))]) (h : f_L_law_j1466 xs L x5 σ = some w) : W p l e room_1 s m args below meth c H locs (kc + 1) (nc + 6) Q (F0 m 1466 ls []) := by
  unfold f_L_law_j1466 at h
  refine lv_goto (tgt := 1667) X.1 X.2.1 (dk T_L_law_14 0 rfl) rfl ?_
  refine W.widen (k := kc + 4) (n := nc + 24) (by omega) (by omega) ?_
  exact w_L_law_j1667 X TX hst hX hbl hbA hkc hnc x5 σ KB KX Y (lv_sub hl [0, 1, 2, 3, 4, 5] rfl) h
def f_L_law_j1411 (xs : Nat → Int32) (L : Nat) (x5 : Int32) (σ : St) : Option ((Int32 × St) ⊕ St) :=
  chk (inb (x5 + 1) L) ((f_L_feed (((xs (x5 + 1).toNatClampNeg).toUInt32 % 65536).toInt32) σ).bind fun q228 => chk (inb (x5 + 1) L) ((f_X11_feed (((xs (x5 + 1).toNatClampNeg).toUInt32 % 65536).toInt32) q228.2).bind fun q230 => (f_X11_thrown q230.2).bind fun q231 => if q231 = q228.1 then if q228.1 = 0 then chk (inb 0 1) (if (lg_cmp ((q230.2 122 (0 : Int32).toNatClampNeg).toInt64) q230.1.toInt64) = 0 then f_L_law_j1466 xs L x5 q230.2 else none) else f_L_law_j1466 xs L x5 q230.2 else none))
set_option maxHeartbeats 4000000 in
set_option maxRecDepth 100000 in
theorem w_L_law_j1411 (X : Cx g RL cL_law 8 (some .boolean) p s m args meth c) (TX : TXs g (GA g s.heap.size) s s.heap) (hst : l.stackTraces = false) {b L : Nat} {xs : Nat → Int32} (hX : va_X b L xs s s.heap) (hbl : b < s.heap.size) (hbA : ¬ GA g s.heap.size b) {kc nc : Nat} (hkc : kc + 4 ≤ room_1.cells) (hnc : nc + 24 ≤ room_1.slots) (x5 : Int32) (σ : St) {w : (Int32 × St) ⊕ St} (KB : ∀ (v0_ : Int32) (v1_ : St), w = .inl (v0_, v1_) → ∀ (H : Heap) (locs : List Loc) (ls : Array Slot), Wd g s v1_ H locs → lv_has ls 8 [(0, .ref (b)), (1, .ref (g.2.2 (0))), (2, .ref (g.2.2 (101))), (3, .ref (g.2.2 (122))), (4, .ref (g.2.2 (123))), (5, .int (v0_))] → W p l e room_1 s m args below meth c H locs (kc + 4) (nc + 24) Q (F0 m 28 ls [])) (KX : ∀ (v : St), w = .inr v → ∀ (H : Heap) (locs : List Loc) (ls : Array Slot), Wd g s v H locs → lv_has ls 8 [(0, .ref (b))] → W p l e room_1 s m args below meth c H locs (kc) (nc) Q (F0 m 1673 ls [])) {H : Heap} {locs : List Loc} {ls : Array Slot} (Y : Wd g s σ H locs) (hl : lv_has ls 8 [(0, .ref (b)), (1, .ref (g.2.2 (0))), (2, .ref (g.2.2 (101))), (3, .ref (g.2.2 (122))), (4, .ref (g.2.2 (123))), (5, .int (x5))]) (h : f_L_law_j1411 xs L x5 σ = some w) : W p l e room_1 s m args below meth c H locs (kc) (nc) Q (F0 m 1411 ls []) := by
  unfold f_L_law_j1411 at h
  refine lv_aload_n X.1 X.2.1 (dk T_L_law_13 28 rfl) rfl (lv_at hl 1 rfl) ?_
  refine lv_aload_n X.1 X.2.1 (dk T_L_law_13 29 rfl) rfl (lv_at hl 0 rfl) ?_
  refine lv_iload X.1 X.2.1 (dk T_L_law_13 30 rfl) (lv_at hl 5 rfl) ?_
  refine lv_iconst (v := 1) X.1 X.2.1 (dk T_L_law_13 31 rfl) ic_1 ?_
  refine lv_iadd X.1 X.2.1 (dk T_L_law_13 32 rfl) ?_
  obtain ⟨g227, h⟩ := gd h
  refine va_sld X.1 X.2.1 hX hbl hbA Y.2 (inp g227) (dk T_L_law_13 33 rfl) ?_
  refine lv_i2c X.1 X.2.1 (dk T_L_law_13 34 rfl) rfl ?_
  refine lv_aload_n X.1 X.2.1 (dk T_L_law_13 35 rfl) rfl (lv_at hl 3 rfl) ?_
  obtain ⟨q228, hq228, h⟩ := bs h
  refine gsH (rest := []) X TX hst Y (c_L_feed (((xs (x5 + 1).toNatClampNeg).toUInt32 % 65536).toInt32) σ hq228) cb_L_162 hl.1 rfl rfl (Nat.le_of_ble_eq_true rfl) ⟨(Nat.le_of_ble_eq_true rfl), (Nat.le_of_ble_eq_true rfl)⟩ ⟨law_le hkc (by decide), law_le hnc (by decide)⟩ (dk T_L_law_13 36 rfl) (fun H locs Y => ?_)
  refine lv_istore (lv' := [(6, .int (q228.1)), (0, .ref (b)), (1, .ref (g.2.2 (0))), (2, .ref (g.2.2 (101))), (3, .ref (g.2.2 (122))), (4, .ref (g.2.2 (123))), (5, .int (x5))]) X.1 X.2.1 (dk T_L_law_13 37 rfl) hl (Nat.le_of_ble_eq_true rfl) rfl (fun ls hl => ?_)
  refine lv_aload_n X.1 X.2.1 (dk T_L_law_13 38 rfl) rfl (lv_at hl 3 rfl) ?_
  refine lv_aload_n X.1 X.2.1 (dk T_L_law_13 39 rfl) rfl (lv_at hl 1 rfl) ?_
  refine lv_iload X.1 X.2.1 (dk T_L_law_13 40 rfl) (lv_at hl 6 rfl) ?_
  refine lv_iconst (v := 1) X.1 X.2.1 (dk T_L_law_13 41 rfl) ic_1 ?_
  refine lv_iadd X.1 X.2.1 (dk T_L_law_13 42 rfl) ?_
  obtain ⟨g229, h⟩ := gd h
  refine va_sld X.1 X.2.1 hX hbl hbA Y.2 (inp g229) (dk T_L_law_13 43 rfl) ?_
  refine lv_i2c X.1 X.2.1 (dk T_L_law_13 44 rfl) rfl ?_
  obtain ⟨q230, hq230, h⟩ := bs h
  refine gvIx (rest := []) X Y (c_X11_feed (((xs (x5 + 1).toNatClampNeg).toUInt32 % 65536).toInt32) q228.2 hq230) cb_L_165 rfl hl.1 rfl rfl (Nat.le_of_ble_eq_true rfl) ⟨(Nat.le_of_ble_eq_true rfl), (Nat.le_of_ble_eq_true rfl)⟩ ⟨law_le hkc (by decide), law_le hnc (by decide)⟩ (dk T_L_law_13 45 rfl) (fun H locs Y => ?_)
  refine lv_istore (lv' := [(7, .int (q230.1)), (6, .int (q228.1)), (0, .ref (b)), (1, .ref (g.2.2 (0))), (2, .ref (g.2.2 (101))), (3, .ref (g.2.2 (122))), (4, .ref (g.2.2 (123))), (5, .int (x5))]) X.1 X.2.1 (dk T_L_law_13 46 rfl) hl (Nat.le_of_ble_eq_true rfl) rfl (fun ls hl => ?_)
  refine lv_aload_n X.1 X.2.1 (dk T_L_law_13 47 rfl) rfl (lv_at hl 4 rfl) ?_
  obtain ⟨q231, hq231, h⟩ := bs h
  refine gvIx (rest := []) X Y (c_X11_thrown q230.2 hq231) cb_L_102 rfl hl.1 rfl rfl (Nat.le_of_ble_eq_true rfl) ⟨(Nat.le_of_ble_eq_true rfl), (Nat.le_of_ble_eq_true rfl)⟩ ⟨law_le hkc (by decide), law_le hnc (by decide)⟩ (dk T_L_law_13 48 rfl) (fun H locs Y => ?_)
  refine lv_iload X.1 X.2.1 (dk T_L_law_13 49 rfl) (lv_at hl 1 rfl) ?_
  refine lv_icmp_eq (tgt := 1449) X.1 X.2.1 (dk T_L_law_13 50 rfl) rfl (fun c232 => ?_) (fun c232 => ?_)
  · replace h := ipos c232 h
    refine lv_iload X.1 X.2.1 (dk T_L_law_13 53 rfl) (lv_at hl 1 rfl) ?_
    refine lv_if_ne (tgt := 1466) X.1 X.2.1 (dk T_L_law_13 54 rfl) rfl (fun c233 => ?_) (fun c233 => ?_)
    · replace h := ineg c233 h
      exact w_L_law_j1466 X TX hst hX hbl hbA hkc hnc x5 q230.2 KB KX Y (lv_sub hl [2, 3, 4, 5, 6, 7] rfl) h
    · replace h := ipos c233 h
      refine lv_aload_n X.1 X.2.1 (dk T_L_law_13 55 rfl) rfl (lv_at hl 5 rfl) ?_
      refine lv_iconst (v := 0) X.1 X.2.1 (dk T_L_law_13 56 rfl) ic_0 ?_
      obtain ⟨g234, h⟩ := gd h
      refine gll X Y rfl (inp g234) (dk T_L_law_13 57 rfl) ?_
      refine lv_iload X.1 X.2.1 (dk T_L_law_13 58 rfl) (lv_at hl 0 rfl) ?_
      refine lv_i2l X.1 X.2.1 (dk T_L_law_13 59 rfl) rfl ?_
      refine W.lcmp X.1 X.2.1 (dk T_L_law_13 60 rfl) ?_
      refine lv_if_eq (tgt := 1466) X.1 X.2.1 (dk T_L_law_13 61 rfl) rfl (fun c235 => ?_) (fun c235 => ?_)
      · replace h := ipos c235 h
        exact w_L_law_j1466 X TX hst hX hbl hbA hkc hnc x5 q230.2 KB KX Y (lv_sub hl [2, 3, 4, 5, 6, 7] rfl) h
      · replace h := ineg c235 h
        cases h
  · replace h := ineg c232 h
    cases h
def f_L_law_j1469 (xs : Nat → Int32) (L : Nat) (x5 : Int32) (σ : St) : Option ((Int32 × St) ⊕ St) :=
  (f_X10_read σ).bind fun q237 => (f_X11_read q237.2).bind fun q238 => if q237.1 = q238.1 then f_L_law_j1667 xs L x5 q238.2 else none
set_option maxHeartbeats 4000000 in
set_option maxRecDepth 100000 in
theorem w_L_law_j1469 (X : Cx g RL cL_law 8 (some .boolean) p s m args meth c) (TX : TXs g (GA g s.heap.size) s s.heap) (hst : l.stackTraces = false) {b L : Nat} {xs : Nat → Int32} (hX : va_X b L xs s s.heap) (hbl : b < s.heap.size) (hbA : ¬ GA g s.heap.size b) {kc nc : Nat} (hkc : kc + 4 ≤ room_1.cells) (hnc : nc + 24 ≤ room_1.slots) (x5 : Int32) (σ : St) {w : (Int32 × St) ⊕ St} (KB : ∀ (v0_ : Int32) (v1_ : St), w = .inl (v0_, v1_) → ∀ (H : Heap) (locs : List Loc) (ls : Array Slot), Wd g s v1_ H locs → lv_has ls 8 [(0, .ref (b)), (1, .ref (g.2.2 (0))), (2, .ref (g.2.2 (101))), (3, .ref (g.2.2 (122))), (4, .ref (g.2.2 (123))), (5, .int (v0_))] → W p l e room_1 s m args below meth c H locs (kc + 4) (nc + 24) Q (F0 m 28 ls [])) (KX : ∀ (v : St), w = .inr v → ∀ (H : Heap) (locs : List Loc) (ls : Array Slot), Wd g s v H locs → lv_has ls 8 [(0, .ref (b))] → W p l e room_1 s m args below meth c H locs (kc) (nc) Q (F0 m 1673 ls [])) {H : Heap} {locs : List Loc} {ls : Array Slot} (Y : Wd g s σ H locs) (hl : lv_has ls 8 [(0, .ref (b)), (1, .ref (g.2.2 (0))), (2, .ref (g.2.2 (101))), (3, .ref (g.2.2 (122))), (4, .ref (g.2.2 (123))), (5, .int (x5))]) (h : f_L_law_j1469 xs L x5 σ = some w) : W p l e room_1 s m args below meth c H locs (kc) (nc) Q (F0 m 1469 ls []) := by
  unfold f_L_law_j1469 at h
  refine lv_aload_n X.1 X.2.1 (dk T_L_law_14 1 rfl) rfl (lv_at hl 1 rfl) ?_
  obtain ⟨q237, hq237, h⟩ := bs h
  refine gvIx (rest := []) X Y (c_X10_read σ hq237) cb_L_166 rfl hl.1 rfl rfl (Nat.le_of_ble_eq_true rfl) ⟨(Nat.le_of_ble_eq_true rfl), (Nat.le_of_ble_eq_true rfl)⟩ ⟨law_l0 hkc, law_l0 hnc⟩ (dk T_L_law_14 2 rfl) (fun H locs Y => ?_)
  refine lv_aload_n X.1 X.2.1 (dk T_L_law_14 3 rfl) rfl (lv_at hl 2 rfl) ?_
  obtain ⟨q238, hq238, h⟩ := bs h
  refine gvIx (rest := [.int (q237.1)]) X Y (c_X11_read q237.2 hq238) cb_L_169 rfl hl.1 rfl rfl (Nat.le_of_ble_eq_true rfl) ⟨(Nat.le_of_ble_eq_true rfl), (Nat.le_of_ble_eq_true rfl)⟩ ⟨law_l0 hkc, law_l0 hnc⟩ (dk T_L_law_14 4 rfl) (fun H locs Y => ?_)
  refine lv_icmp_eq (tgt := 1667) X.1 X.2.1 (dk T_L_law_14 5 rfl) rfl (fun c239 => ?_) (fun c239 => ?_)
  · replace h := ipos c239 h
    refine W.widen (k := kc + 4) (n := nc + 24) (by omega) (by omega) ?_
    exact w_L_law_j1667 X TX hst hX hbl hbA hkc hnc x5 q238.2 KB KX Y (lv_sub hl [0, 1, 2, 3, 4, 5] rfl) h
  · replace h := ineg c239 h
    cases h
def f_L_law_j1563 (xs : Nat → Int32) (L : Nat) (x5 : Int32) (σ : St) : Option ((Int32 × St) ⊕ St) :=
  f_L_law_j1667 xs L x5 σ
set_option maxHeartbeats 4000000 in
set_option maxRecDepth 100000 in
theorem w_L_law_j1563 (X : Cx g RL cL_law 8 (some .boolean) p s m args meth c) (TX : TXs g (GA g s.heap.size) s s.heap) (hst : l.stackTraces = false) {b L : Nat} {xs : Nat → Int32} (hX : va_X b L xs s s.heap) (hbl : b < s.heap.size) (hbA : ¬ GA g s.heap.size b) {kc nc : Nat} (hkc : kc + 4 ≤ room_1.cells) (hnc : nc + 24 ≤ room_1.slots) (x5 : Int32) (σ : St) {w : (Int32 × St) ⊕ St} (KB : ∀ (v0_ : Int32) (v1_ : St), w = .inl (v0_, v1_) → ∀ (H : Heap) (locs : List Loc) (ls : Array Slot), Wd g s v1_ H locs → lv_has ls 8 [(0, .ref (b)), (1, .ref (g.2.2 (0))), (2, .ref (g.2.2 (101))), (3, .ref (g.2.2 (122))), (4, .ref (g.2.2 (123))), (5, .int (v0_))] → W p l e room_1 s m args below meth c H locs (kc + 4) (nc + 24) Q (F0 m 28 ls [])) (KX : ∀ (v : St), w = .inr v → ∀ (H : Heap) (locs : List Loc) (ls : Array Slot), Wd g s v H locs → lv_has ls 8 [(0, .ref (b))] → W p l e room_1 s m args below meth c H locs (kc) (nc) Q (F0 m 1673 ls [])) {H : Heap} {locs : List Loc} {ls : Array Slot} (Y : Wd g s σ H locs) (hl : lv_has ls 8 [(0, .ref (b)), (1, .ref (g.2.2 (0))), (2, .ref (g.2.2 (101))), (3, .ref (g.2.2 (122))), (4, .ref (g.2.2 (123))), (5, .int (x5))]) (h : f_L_law_j1563 xs L x5 σ = some w) : W p l e room_1 s m args below meth c H locs (kc + 1) (nc + 6) Q (F0 m 1563 ls []) := by
  unfold f_L_law_j1563 at h
  refine lv_goto (tgt := 1667) X.1 X.2.1 (dk T_L_law_14 60 rfl) rfl ?_
  refine W.widen (k := kc + 4) (n := nc + 24) (by omega) (by omega) ?_
  exact w_L_law_j1667 X TX hst hX hbl hbA hkc hnc x5 σ KB KX Y (lv_sub hl [0, 1, 2, 3, 4, 5] rfl) h
def f_L_law_j1530 (xs : Nat → Int32) (L : Nat) (x5 : Int32) (x6 : Int32) (s0 : Int32) (s1 : Int32) (σ : St) : Option ((Int32 × St) ⊕ St) :=
  (f_X11_fault s1 s0 σ).bind fun q248 => (f_X11_thrown q248.2).bind fun q249 => if q249 = x6 then if x6 = 0 then chk (inb 0 1) (if (lg_cmp ((q248.2 122 (0 : Int32).toNatClampNeg).toInt64) q248.1.toInt64) = 0 then f_L_law_j1563 xs L x5 q248.2 else none) else f_L_law_j1563 xs L x5 q248.2 else none
set_option maxHeartbeats 4000000 in
set_option maxRecDepth 100000 in
theorem w_L_law_j1530 (X : Cx g RL cL_law 8 (some .boolean) p s m args meth c) (TX : TXs g (GA g s.heap.size) s s.heap) (hst : l.stackTraces = false) {b L : Nat} {xs : Nat → Int32} (hX : va_X b L xs s s.heap) (hbl : b < s.heap.size) (hbA : ¬ GA g s.heap.size b) {kc nc : Nat} (hkc : kc + 4 ≤ room_1.cells) (hnc : nc + 24 ≤ room_1.slots) (x5 : Int32) (x6 : Int32) (s0 : Int32) (s1 : Int32) (σ : St) {w : (Int32 × St) ⊕ St} (KB : ∀ (v0_ : Int32) (v1_ : St), w = .inl (v0_, v1_) → ∀ (H : Heap) (locs : List Loc) (ls : Array Slot), Wd g s v1_ H locs → lv_has ls 8 [(0, .ref (b)), (1, .ref (g.2.2 (0))), (2, .ref (g.2.2 (101))), (3, .ref (g.2.2 (122))), (4, .ref (g.2.2 (123))), (5, .int (v0_))] → W p l e room_1 s m args below meth c H locs (kc + 4) (nc + 24) Q (F0 m 28 ls [])) (KX : ∀ (v : St), w = .inr v → ∀ (H : Heap) (locs : List Loc) (ls : Array Slot), Wd g s v H locs → lv_has ls 8 [(0, .ref (b))] → W p l e room_1 s m args below meth c H locs (kc) (nc) Q (F0 m 1673 ls [])) {H : Heap} {locs : List Loc} {ls : Array Slot} (Y : Wd g s σ H locs) (hl : lv_has ls 8 [(0, .ref (b)), (1, .ref (g.2.2 (0))), (2, .ref (g.2.2 (101))), (3, .ref (g.2.2 (122))), (4, .ref (g.2.2 (123))), (5, .int (x5)), (6, .int (x6))]) (h : f_L_law_j1530 xs L x5 x6 s0 s1 σ = some w) : W p l e room_1 s m args below meth c H locs (kc + 1) (nc + 6) Q (F0 m 1530 ls [.int (s0), .int (s1), .ref (g.2.2 (101))]) := by
  unfold f_L_law_j1530 at h
  obtain ⟨q248, hq248, h⟩ := bs h
  refine gvIx (rest := []) X Y (c_X11_fault s1 s0 σ hq248) cb_L_172 rfl hl.1 rfl rfl (Nat.le_of_ble_eq_true rfl) ⟨(Nat.le_of_ble_eq_true rfl), (Nat.le_of_ble_eq_true rfl)⟩ ⟨law_le hkc (by decide), law_le hnc (by decide)⟩ (dk T_L_law_14 41 rfl) (fun H locs Y => ?_)
  refine lv_istore (lv' := [(7, .int (q248.1)), (0, .ref (b)), (1, .ref (g.2.2 (0))), (2, .ref (g.2.2 (101))), (3, .ref (g.2.2 (122))), (4, .ref (g.2.2 (123))), (5, .int (x5)), (6, .int (x6))]) X.1 X.2.1 (dk T_L_law_14 42 rfl) hl (Nat.le_of_ble_eq_true rfl) rfl (fun ls hl => ?_)
  refine lv_aload_n X.1 X.2.1 (dk T_L_law_14 43 rfl) rfl (lv_at hl 3 rfl) ?_
  obtain ⟨q249, hq249, h⟩ := bs h
  refine gvIx (rest := []) X Y (c_X11_thrown q248.2 hq249) cb_L_102 rfl hl.1 rfl rfl (Nat.le_of_ble_eq_true rfl) ⟨(Nat.le_of_ble_eq_true rfl), (Nat.le_of_ble_eq_true rfl)⟩ ⟨law_le hkc (by decide), law_le hnc (by decide)⟩ (dk T_L_law_14 44 rfl) (fun H locs Y => ?_)
  refine lv_iload X.1 X.2.1 (dk T_L_law_14 45 rfl) (lv_at hl 7 rfl) ?_
  refine lv_icmp_eq (tgt := 1546) X.1 X.2.1 (dk T_L_law_14 46 rfl) rfl (fun c250 => ?_) (fun c250 => ?_)
  · replace h := ipos c250 h
    refine lv_iload X.1 X.2.1 (dk T_L_law_14 49 rfl) (lv_at hl 7 rfl) ?_
    refine lv_if_ne (tgt := 1563) X.1 X.2.1 (dk T_L_law_14 50 rfl) rfl (fun c251 => ?_) (fun c251 => ?_)
    · replace h := ineg c251 h
      exact w_L_law_j1563 X TX hst hX hbl hbA hkc hnc x5 q248.2 KB KX Y (lv_sub hl [1, 2, 3, 4, 5, 6] rfl) h
    · replace h := ipos c251 h
      refine lv_aload_n X.1 X.2.1 (dk T_L_law_14 51 rfl) rfl (lv_at hl 4 rfl) ?_
      refine lv_iconst (v := 0) X.1 X.2.1 (dk T_L_law_14 52 rfl) ic_0 ?_
      obtain ⟨g252, h⟩ := gd h
      refine gll X Y rfl (inp g252) (dk T_L_law_14 53 rfl) ?_
      refine lv_iload X.1 X.2.1 (dk T_L_law_14 54 rfl) (lv_at hl 0 rfl) ?_
      refine lv_i2l X.1 X.2.1 (dk T_L_law_14 55 rfl) rfl ?_
      refine W.lcmp X.1 X.2.1 (dk T_L_law_14 56 rfl) ?_
      refine lv_if_eq (tgt := 1563) X.1 X.2.1 (dk T_L_law_14 57 rfl) rfl (fun c253 => ?_) (fun c253 => ?_)
      · replace h := ipos c253 h
        exact w_L_law_j1563 X TX hst hX hbl hbA hkc hnc x5 q248.2 KB KX Y (lv_sub hl [1, 2, 3, 4, 5, 6] rfl) h
      · replace h := ineg c253 h
        cases h
  · replace h := ineg c250 h
    cases h
def f_L_law_j1503 (xs : Nat → Int32) (L : Nat) (x5 : Int32) (s0 : Int32) (s1 : Int32) (σ : St) : Option ((Int32 × St) ⊕ St) :=
  (f_L_fault s1 s0 σ).bind fun q244 => chk (inb (x5 + 1) L) (chk (inb (x5 + 2) L) (if (xs (x5 + 2).toNatClampNeg) = 0 then f_L_law_j1530 xs L x5 q244.1 0 (xs (x5 + 1).toNatClampNeg) q244.2 else f_L_law_j1530 xs L x5 q244.1 1 (xs (x5 + 1).toNatClampNeg) q244.2))
set_option maxHeartbeats 4000000 in
set_option maxRecDepth 100000 in
theorem w_L_law_j1503 (X : Cx g RL cL_law 8 (some .boolean) p s m args meth c) (TX : TXs g (GA g s.heap.size) s s.heap) (hst : l.stackTraces = false) {b L : Nat} {xs : Nat → Int32} (hX : va_X b L xs s s.heap) (hbl : b < s.heap.size) (hbA : ¬ GA g s.heap.size b) {kc nc : Nat} (hkc : kc + 4 ≤ room_1.cells) (hnc : nc + 24 ≤ room_1.slots) (x5 : Int32) (s0 : Int32) (s1 : Int32) (σ : St) {w : (Int32 × St) ⊕ St} (KB : ∀ (v0_ : Int32) (v1_ : St), w = .inl (v0_, v1_) → ∀ (H : Heap) (locs : List Loc) (ls : Array Slot), Wd g s v1_ H locs → lv_has ls 8 [(0, .ref (b)), (1, .ref (g.2.2 (0))), (2, .ref (g.2.2 (101))), (3, .ref (g.2.2 (122))), (4, .ref (g.2.2 (123))), (5, .int (v0_))] → W p l e room_1 s m args below meth c H locs (kc + 4) (nc + 24) Q (F0 m 28 ls [])) (KX : ∀ (v : St), w = .inr v → ∀ (H : Heap) (locs : List Loc) (ls : Array Slot), Wd g s v H locs → lv_has ls 8 [(0, .ref (b))] → W p l e room_1 s m args below meth c H locs (kc) (nc) Q (F0 m 1673 ls [])) {H : Heap} {locs : List Loc} {ls : Array Slot} (Y : Wd g s σ H locs) (hl : lv_has ls 8 [(0, .ref (b)), (1, .ref (g.2.2 (0))), (2, .ref (g.2.2 (101))), (3, .ref (g.2.2 (122))), (4, .ref (g.2.2 (123))), (5, .int (x5))]) (h : f_L_law_j1503 xs L x5 s0 s1 σ = some w) : W p l e room_1 s m args below meth c H locs (kc) (nc) Q (F0 m 1503 ls [.int (s0), .int (s1), .ref (g.2.2 (0))]) := by
  unfold f_L_law_j1503 at h
  refine lv_aload_n X.1 X.2.1 (dk T_L_law_14 23 rfl) rfl (lv_at hl 3 rfl) ?_
  obtain ⟨q244, hq244, h⟩ := bs h
  refine gsH (rest := []) X TX hst Y (c_L_fault s1 s0 σ hq244) cb_L_170 hl.1 rfl rfl (Nat.le_of_ble_eq_true rfl) ⟨(Nat.le_of_ble_eq_true rfl), (Nat.le_of_ble_eq_true rfl)⟩ ⟨law_le hkc (by decide), law_le hnc (by decide)⟩ (dk T_L_law_14 24 rfl) (fun H locs Y => ?_)
  refine lv_istore (lv' := [(6, .int (q244.1)), (0, .ref (b)), (1, .ref (g.2.2 (0))), (2, .ref (g.2.2 (101))), (3, .ref (g.2.2 (122))), (4, .ref (g.2.2 (123))), (5, .int (x5))]) X.1 X.2.1 (dk T_L_law_14 25 rfl) hl (Nat.le_of_ble_eq_true rfl) rfl (fun ls hl => ?_)
  refine lv_aload_n X.1 X.2.1 (dk T_L_law_14 26 rfl) rfl (lv_at hl 3 rfl) ?_
  refine lv_aload_n X.1 X.2.1 (dk T_L_law_14 27 rfl) rfl (lv_at hl 1 rfl) ?_
  refine lv_iload X.1 X.2.1 (dk T_L_law_14 28 rfl) (lv_at hl 6 rfl) ?_
  refine lv_iconst (v := 1) X.1 X.2.1 (dk T_L_law_14 29 rfl) ic_1 ?_
  refine lv_iadd X.1 X.2.1 (dk T_L_law_14 30 rfl) ?_
  obtain ⟨g245, h⟩ := gd h
  refine va_sld X.1 X.2.1 hX hbl hbA Y.2 (inp g245) (dk T_L_law_14 31 rfl) ?_
  refine lv_aload_n X.1 X.2.1 (dk T_L_law_14 32 rfl) rfl (lv_at hl 1 rfl) ?_
  refine lv_iload X.1 X.2.1 (dk T_L_law_14 33 rfl) (lv_at hl 6 rfl) ?_
  refine lv_iconst (v := 2) X.1 X.2.1 (dk T_L_law_14 34 rfl) ic_2 ?_
  refine lv_iadd X.1 X.2.1 (dk T_L_law_14 35 rfl) ?_
  obtain ⟨g246, h⟩ := gd h
  refine va_sld X.1 X.2.1 hX hbl hbA Y.2 (inp g246) (dk T_L_law_14 36 rfl) ?_
  refine lv_if_eq (tgt := 1529) X.1 X.2.1 (dk T_L_law_14 37 rfl) rfl (fun c247 => ?_) (fun c247 => ?_)
  · replace h := ipos c247 h
    refine lv_iconst (v := 0) X.1 X.2.1 (dk T_L_law_14 40 rfl) ic_0 ?_
    exact w_L_law_j1530 X TX hst hX hbl hbA hkc hnc x5 q244.1 0 (xs (x5 + 1).toNatClampNeg) q244.2 KB KX Y (lv_sub hl [1, 2, 3, 4, 5, 6, 0] rfl) h
  · replace h := ineg c247 h
    refine lv_iconst (v := 1) X.1 X.2.1 (dk T_L_law_14 38 rfl) ic_1 ?_
    refine lv_goto (tgt := 1530) X.1 X.2.1 (dk T_L_law_14 39 rfl) rfl ?_
    exact w_L_law_j1530 X TX hst hX hbl hbA hkc hnc x5 q244.1 1 (xs (x5 + 1).toNatClampNeg) q244.2 KB KX Y (lv_sub hl [1, 2, 3, 4, 5, 6, 0] rfl) h
def f_L_law_j1482 (xs : Nat → Int32) (L : Nat) (x5 : Int32) (σ : St) : Option ((Int32 × St) ⊕ St) :=
  chk (inb (x5 + 1) L) (chk (inb (x5 + 2) L) (if (xs (x5 + 2).toNatClampNeg) = 0 then f_L_law_j1503 xs L x5 0 (xs (x5 + 1).toNatClampNeg) σ else f_L_law_j1503 xs L x5 1 (xs (x5 + 1).toNatClampNeg) σ))
set_option maxHeartbeats 4000000 in
set_option maxRecDepth 100000 in
theorem w_L_law_j1482 (X : Cx g RL cL_law 8 (some .boolean) p s m args meth c) (TX : TXs g (GA g s.heap.size) s s.heap) (hst : l.stackTraces = false) {b L : Nat} {xs : Nat → Int32} (hX : va_X b L xs s s.heap) (hbl : b < s.heap.size) (hbA : ¬ GA g s.heap.size b) {kc nc : Nat} (hkc : kc + 4 ≤ room_1.cells) (hnc : nc + 24 ≤ room_1.slots) (x5 : Int32) (σ : St) {w : (Int32 × St) ⊕ St} (KB : ∀ (v0_ : Int32) (v1_ : St), w = .inl (v0_, v1_) → ∀ (H : Heap) (locs : List Loc) (ls : Array Slot), Wd g s v1_ H locs → lv_has ls 8 [(0, .ref (b)), (1, .ref (g.2.2 (0))), (2, .ref (g.2.2 (101))), (3, .ref (g.2.2 (122))), (4, .ref (g.2.2 (123))), (5, .int (v0_))] → W p l e room_1 s m args below meth c H locs (kc + 4) (nc + 24) Q (F0 m 28 ls [])) (KX : ∀ (v : St), w = .inr v → ∀ (H : Heap) (locs : List Loc) (ls : Array Slot), Wd g s v H locs → lv_has ls 8 [(0, .ref (b))] → W p l e room_1 s m args below meth c H locs (kc) (nc) Q (F0 m 1673 ls [])) {H : Heap} {locs : List Loc} {ls : Array Slot} (Y : Wd g s σ H locs) (hl : lv_has ls 8 [(0, .ref (b)), (1, .ref (g.2.2 (0))), (2, .ref (g.2.2 (101))), (3, .ref (g.2.2 (122))), (4, .ref (g.2.2 (123))), (5, .int (x5))]) (h : f_L_law_j1482 xs L x5 σ = some w) : W p l e room_1 s m args below meth c H locs (kc) (nc) Q (F0 m 1482 ls []) := by
  unfold f_L_law_j1482 at h
  refine lv_aload_n X.1 X.2.1 (dk T_L_law_14 8 rfl) rfl (lv_at hl 1 rfl) ?_
  refine lv_aload_n X.1 X.2.1 (dk T_L_law_14 9 rfl) rfl (lv_at hl 0 rfl) ?_
  refine lv_iload X.1 X.2.1 (dk T_L_law_14 10 rfl) (lv_at hl 5 rfl) ?_
  refine lv_iconst (v := 1) X.1 X.2.1 (dk T_L_law_14 11 rfl) ic_1 ?_
  refine lv_iadd X.1 X.2.1 (dk T_L_law_14 12 rfl) ?_
  obtain ⟨g241, h⟩ := gd h
  refine va_sld X.1 X.2.1 hX hbl hbA Y.2 (inp g241) (dk T_L_law_14 13 rfl) ?_
  refine lv_aload_n X.1 X.2.1 (dk T_L_law_14 14 rfl) rfl (lv_at hl 0 rfl) ?_
  refine lv_iload X.1 X.2.1 (dk T_L_law_14 15 rfl) (lv_at hl 5 rfl) ?_
  refine lv_iconst (v := 2) X.1 X.2.1 (dk T_L_law_14 16 rfl) ic_2 ?_
  refine lv_iadd X.1 X.2.1 (dk T_L_law_14 17 rfl) ?_
  obtain ⟨g242, h⟩ := gd h
  refine va_sld X.1 X.2.1 hX hbl hbA Y.2 (inp g242) (dk T_L_law_14 18 rfl) ?_
  refine lv_if_eq (tgt := 1502) X.1 X.2.1 (dk T_L_law_14 19 rfl) rfl (fun c243 => ?_) (fun c243 => ?_)
  · replace h := ipos c243 h
    refine lv_iconst (v := 0) X.1 X.2.1 (dk T_L_law_14 22 rfl) ic_0 ?_
    exact w_L_law_j1503 X TX hst hX hbl hbA hkc hnc x5 0 (xs (x5 + 1).toNatClampNeg) σ KB KX Y (lv_sub hl [0, 1, 2, 3, 4, 5] rfl) h
  · replace h := ineg c243 h
    refine lv_iconst (v := 1) X.1 X.2.1 (dk T_L_law_14 20 rfl) ic_1 ?_
    refine lv_goto (tgt := 1503) X.1 X.2.1 (dk T_L_law_14 21 rfl) rfl ?_
    exact w_L_law_j1503 X TX hst hX hbl hbA hkc hnc x5 1 (xs (x5 + 1).toNatClampNeg) σ KB KX Y (lv_sub hl [0, 1, 2, 3, 4, 5] rfl) h
def f_L_law_j1607 (xs : Nat → Int32) (L : Nat) (x5 : Int32) (σ : St) : Option ((Int32 × St) ⊕ St) :=
  f_L_law_j1667 xs L x5 σ
set_option maxHeartbeats 4000000 in
set_option maxRecDepth 100000 in
theorem w_L_law_j1607 (X : Cx g RL cL_law 8 (some .boolean) p s m args meth c) (TX : TXs g (GA g s.heap.size) s s.heap) (hst : l.stackTraces = false) {b L : Nat} {xs : Nat → Int32} (hX : va_X b L xs s s.heap) (hbl : b < s.heap.size) (hbA : ¬ GA g s.heap.size b) {kc nc : Nat} (hkc : kc + 4 ≤ room_1.cells) (hnc : nc + 24 ≤ room_1.slots) (x5 : Int32) (σ : St) {w : (Int32 × St) ⊕ St} (KB : ∀ (v0_ : Int32) (v1_ : St), w = .inl (v0_, v1_) → ∀ (H : Heap) (locs : List Loc) (ls : Array Slot), Wd g s v1_ H locs → lv_has ls 8 [(0, .ref (b)), (1, .ref (g.2.2 (0))), (2, .ref (g.2.2 (101))), (3, .ref (g.2.2 (122))), (4, .ref (g.2.2 (123))), (5, .int (v0_))] → W p l e room_1 s m args below meth c H locs (kc + 4) (nc + 24) Q (F0 m 28 ls [])) (KX : ∀ (v : St), w = .inr v → ∀ (H : Heap) (locs : List Loc) (ls : Array Slot), Wd g s v H locs → lv_has ls 8 [(0, .ref (b))] → W p l e room_1 s m args below meth c H locs (kc) (nc) Q (F0 m 1673 ls [])) {H : Heap} {locs : List Loc} {ls : Array Slot} (Y : Wd g s σ H locs) (hl : lv_has ls 8 [(0, .ref (b)), (1, .ref (g.2.2 (0))), (2, .ref (g.2.2 (101))), (3, .ref (g.2.2 (122))), (4, .ref (g.2.2 (123))), (5, .int (x5))]) (h : f_L_law_j1607 xs L x5 σ = some w) : W p l e room_1 s m args below meth c H locs (kc + 1) (nc + 6) Q (F0 m 1607 ls []) := by
  unfold f_L_law_j1607 at h
  refine lv_goto (tgt := 1667) X.1 X.2.1 (dk T_L_law_15 21 rfl) rfl ?_
  refine W.widen (k := kc + 4) (n := nc + 24) (by omega) (by omega) ?_
  exact w_L_law_j1667 X TX hst hX hbl hbA hkc hnc x5 σ KB KX Y (lv_sub hl [0, 1, 2, 3, 4, 5] rfl) h
def f_L_law_j1566 (xs : Nat → Int32) (L : Nat) (x5 : Int32) (σ : St) : Option ((Int32 × St) ⊕ St) :=
  (f_L_undo σ).bind fun q255 => (f_X11_undo q255.2).bind fun q256 => (f_X11_thrown q256.2).bind fun q257 => if q257 = q255.1 then if q255.1 = 0 then chk (inb 0 1) (if (lg_cmp ((q256.2 122 (0 : Int32).toNatClampNeg).toInt64) q256.1.toInt64) = 0 then f_L_law_j1607 xs L x5 q256.2 else none) else f_L_law_j1607 xs L x5 q256.2 else none
set_option maxHeartbeats 4000000 in
set_option maxRecDepth 100000 in
theorem w_L_law_j1566 (X : Cx g RL cL_law 8 (some .boolean) p s m args meth c) (TX : TXs g (GA g s.heap.size) s s.heap) (hst : l.stackTraces = false) {b L : Nat} {xs : Nat → Int32} (hX : va_X b L xs s s.heap) (hbl : b < s.heap.size) (hbA : ¬ GA g s.heap.size b) {kc nc : Nat} (hkc : kc + 4 ≤ room_1.cells) (hnc : nc + 24 ≤ room_1.slots) (x5 : Int32) (σ : St) {w : (Int32 × St) ⊕ St} (KB : ∀ (v0_ : Int32) (v1_ : St), w = .inl (v0_, v1_) → ∀ (H : Heap) (locs : List Loc) (ls : Array Slot), Wd g s v1_ H locs → lv_has ls 8 [(0, .ref (b)), (1, .ref (g.2.2 (0))), (2, .ref (g.2.2 (101))), (3, .ref (g.2.2 (122))), (4, .ref (g.2.2 (123))), (5, .int (v0_))] → W p l e room_1 s m args below meth c H locs (kc + 4) (nc + 24) Q (F0 m 28 ls [])) (KX : ∀ (v : St), w = .inr v → ∀ (H : Heap) (locs : List Loc) (ls : Array Slot), Wd g s v H locs → lv_has ls 8 [(0, .ref (b))] → W p l e room_1 s m args below meth c H locs (kc) (nc) Q (F0 m 1673 ls [])) {H : Heap} {locs : List Loc} {ls : Array Slot} (Y : Wd g s σ H locs) (hl : lv_has ls 8 [(0, .ref (b)), (1, .ref (g.2.2 (0))), (2, .ref (g.2.2 (101))), (3, .ref (g.2.2 (122))), (4, .ref (g.2.2 (123))), (5, .int (x5))]) (h : f_L_law_j1566 xs L x5 σ = some w) : W p l e room_1 s m args below meth c H locs (kc) (nc) Q (F0 m 1566 ls []) := by
  unfold f_L_law_j1566 at h
  refine lv_aload_n X.1 X.2.1 (dk T_L_law_14 61 rfl) rfl (lv_at hl 1 rfl) ?_
  refine lv_aload_n X.1 X.2.1 (dk T_L_law_14 62 rfl) rfl (lv_at hl 3 rfl) ?_
  obtain ⟨q255, hq255, h⟩ := bs h
  refine gsH (rest := []) X TX hst Y (c_L_undo σ hq255) cb_L_173 hl.1 rfl rfl (Nat.le_of_ble_eq_true rfl) ⟨(Nat.le_of_ble_eq_true rfl), (Nat.le_of_ble_eq_true rfl)⟩ ⟨law_le hkc (by decide), law_le hnc (by decide)⟩ (dk T_L_law_14 63 rfl) (fun H locs Y => ?_)
  refine lv_istore (lv' := [(6, .int (q255.1)), (0, .ref (b)), (1, .ref (g.2.2 (0))), (2, .ref (g.2.2 (101))), (3, .ref (g.2.2 (122))), (4, .ref (g.2.2 (123))), (5, .int (x5))]) X.1 X.2.1 (dk T_L_law_15 0 rfl) hl (Nat.le_of_ble_eq_true rfl) rfl (fun ls hl => ?_)
  refine lv_aload_n X.1 X.2.1 (dk T_L_law_15 1 rfl) rfl (lv_at hl 3 rfl) ?_
  obtain ⟨q256, hq256, h⟩ := bs h
  refine gvIx (rest := []) X Y (c_X11_undo q255.2 hq256) cb_L_176 rfl hl.1 rfl rfl (Nat.le_of_ble_eq_true rfl) ⟨(Nat.le_of_ble_eq_true rfl), (Nat.le_of_ble_eq_true rfl)⟩ ⟨law_le hkc (by decide), law_le hnc (by decide)⟩ (dk T_L_law_15 2 rfl) (fun H locs Y => ?_)
  refine lv_istore (lv' := [(7, .int (q256.1)), (6, .int (q255.1)), (0, .ref (b)), (1, .ref (g.2.2 (0))), (2, .ref (g.2.2 (101))), (3, .ref (g.2.2 (122))), (4, .ref (g.2.2 (123))), (5, .int (x5))]) X.1 X.2.1 (dk T_L_law_15 3 rfl) hl (Nat.le_of_ble_eq_true rfl) rfl (fun ls hl => ?_)
  refine lv_aload_n X.1 X.2.1 (dk T_L_law_15 4 rfl) rfl (lv_at hl 4 rfl) ?_
  obtain ⟨q257, hq257, h⟩ := bs h
  refine gvIx (rest := []) X Y (c_X11_thrown q256.2 hq257) cb_L_102 rfl hl.1 rfl rfl (Nat.le_of_ble_eq_true rfl) ⟨(Nat.le_of_ble_eq_true rfl), (Nat.le_of_ble_eq_true rfl)⟩ ⟨law_le hkc (by decide), law_le hnc (by decide)⟩ (dk T_L_law_15 5 rfl) (fun H locs Y => ?_)
  refine lv_iload X.1 X.2.1 (dk T_L_law_15 6 rfl) (lv_at hl 1 rfl) ?_
  refine lv_icmp_eq (tgt := 1590) X.1 X.2.1 (dk T_L_law_15 7 rfl) rfl (fun c258 => ?_) (fun c258 => ?_)
  · replace h := ipos c258 h
    refine lv_iload X.1 X.2.1 (dk T_L_law_15 10 rfl) (lv_at hl 1 rfl) ?_
    refine lv_if_ne (tgt := 1607) X.1 X.2.1 (dk T_L_law_15 11 rfl) rfl (fun c259 => ?_) (fun c259 => ?_)
    · replace h := ineg c259 h
      exact w_L_law_j1607 X TX hst hX hbl hbA hkc hnc x5 q256.2 KB KX Y (lv_sub hl [2, 3, 4, 5, 6, 7] rfl) h
    · replace h := ipos c259 h
      refine lv_aload_n X.1 X.2.1 (dk T_L_law_15 12 rfl) rfl (lv_at hl 5 rfl) ?_
      refine lv_iconst (v := 0) X.1 X.2.1 (dk T_L_law_15 13 rfl) ic_0 ?_
      obtain ⟨g260, h⟩ := gd h
      refine gll X Y rfl (inp g260) (dk T_L_law_15 14 rfl) ?_
      refine lv_iload X.1 X.2.1 (dk T_L_law_15 15 rfl) (lv_at hl 0 rfl) ?_
      refine lv_i2l X.1 X.2.1 (dk T_L_law_15 16 rfl) rfl ?_
      refine W.lcmp X.1 X.2.1 (dk T_L_law_15 17 rfl) ?_
      refine lv_if_eq (tgt := 1607) X.1 X.2.1 (dk T_L_law_15 18 rfl) rfl (fun c261 => ?_) (fun c261 => ?_)
      · replace h := ipos c261 h
        exact w_L_law_j1607 X TX hst hX hbl hbA hkc hnc x5 q256.2 KB KX Y (lv_sub hl [2, 3, 4, 5, 6, 7] rfl) h
      · replace h := ineg c261 h
        cases h
  · replace h := ineg c258 h
    cases h
def f_L_law_j1610 (xs : Nat → Int32) (L : Nat) (x5 : Int32) (σ : St) : Option ((Int32 × St) ⊕ St) :=
  (f_X10_saveSnapshot σ).bind fun q263 => (f_X11_saveSnapshot q263.2).bind fun q264 => if q263.1 = q264.1 then f_L_law_j1667 xs L x5 q264.2 else none
set_option maxHeartbeats 4000000 in
set_option maxRecDepth 100000 in
theorem w_L_law_j1610 (X : Cx g RL cL_law 8 (some .boolean) p s m args meth c) (TX : TXs g (GA g s.heap.size) s s.heap) (hst : l.stackTraces = false) {b L : Nat} {xs : Nat → Int32} (hX : va_X b L xs s s.heap) (hbl : b < s.heap.size) (hbA : ¬ GA g s.heap.size b) {kc nc : Nat} (hkc : kc + 4 ≤ room_1.cells) (hnc : nc + 24 ≤ room_1.slots) (x5 : Int32) (σ : St) {w : (Int32 × St) ⊕ St} (KB : ∀ (v0_ : Int32) (v1_ : St), w = .inl (v0_, v1_) → ∀ (H : Heap) (locs : List Loc) (ls : Array Slot), Wd g s v1_ H locs → lv_has ls 8 [(0, .ref (b)), (1, .ref (g.2.2 (0))), (2, .ref (g.2.2 (101))), (3, .ref (g.2.2 (122))), (4, .ref (g.2.2 (123))), (5, .int (v0_))] → W p l e room_1 s m args below meth c H locs (kc + 4) (nc + 24) Q (F0 m 28 ls [])) (KX : ∀ (v : St), w = .inr v → ∀ (H : Heap) (locs : List Loc) (ls : Array Slot), Wd g s v H locs → lv_has ls 8 [(0, .ref (b))] → W p l e room_1 s m args below meth c H locs (kc) (nc) Q (F0 m 1673 ls [])) {H : Heap} {locs : List Loc} {ls : Array Slot} (Y : Wd g s σ H locs) (hl : lv_has ls 8 [(0, .ref (b)), (1, .ref (g.2.2 (0))), (2, .ref (g.2.2 (101))), (3, .ref (g.2.2 (122))), (4, .ref (g.2.2 (123))), (5, .int (x5))]) (h : f_L_law_j1610 xs L x5 σ = some w) : W p l e room_1 s m args below meth c H locs (kc) (nc) Q (F0 m 1610 ls []) := by
  unfold f_L_law_j1610 at h
  refine lv_aload_n X.1 X.2.1 (dk T_L_law_15 22 rfl) rfl (lv_at hl 1 rfl) ?_
  obtain ⟨q263, hq263, h⟩ := bs h
  refine gvIx (rest := []) X Y (c_X10_saveSnapshot σ hq263) cb_L_177 rfl hl.1 rfl rfl (Nat.le_of_ble_eq_true rfl) ⟨(Nat.le_of_ble_eq_true rfl), (Nat.le_of_ble_eq_true rfl)⟩ ⟨law_l0 hkc, law_l0 hnc⟩ (dk T_L_law_15 23 rfl) (fun H locs Y => ?_)
  refine lv_aload_n X.1 X.2.1 (dk T_L_law_15 24 rfl) rfl (lv_at hl 2 rfl) ?_
  obtain ⟨q264, hq264, h⟩ := bs h
  refine gvIx (rest := [.int (q263.1)]) X Y (c_X11_saveSnapshot q263.2 hq264) cb_L_180 rfl hl.1 rfl rfl (Nat.le_of_ble_eq_true rfl) ⟨(Nat.le_of_ble_eq_true rfl), (Nat.le_of_ble_eq_true rfl)⟩ ⟨law_l0 hkc, law_l0 hnc⟩ (dk T_L_law_15 25 rfl) (fun H locs Y => ?_)
  refine lv_icmp_eq (tgt := 1667) X.1 X.2.1 (dk T_L_law_15 26 rfl) rfl (fun c265 => ?_) (fun c265 => ?_)
  · replace h := ipos c265 h
    refine W.widen (k := kc + 4) (n := nc + 24) (by omega) (by omega) ?_
    exact w_L_law_j1667 X TX hst hX hbl hbA hkc hnc x5 q264.2 KB KX Y (lv_sub hl [0, 1, 2, 3, 4, 5] rfl) h
  · replace h := ineg c265 h
    cases h
def f_L_law_j1664 (xs : Nat → Int32) (L : Nat) (x5 : Int32) (σ : St) : Option ((Int32 × St) ⊕ St) :=
  f_L_law_j1667 xs L x5 σ
set_option maxHeartbeats 4000000 in
set_option maxRecDepth 100000 in
theorem w_L_law_j1664 (X : Cx g RL cL_law 8 (some .boolean) p s m args meth c) (TX : TXs g (GA g s.heap.size) s s.heap) (hst : l.stackTraces = false) {b L : Nat} {xs : Nat → Int32} (hX : va_X b L xs s s.heap) (hbl : b < s.heap.size) (hbA : ¬ GA g s.heap.size b) {kc nc : Nat} (hkc : kc + 4 ≤ room_1.cells) (hnc : nc + 24 ≤ room_1.slots) (x5 : Int32) (σ : St) {w : (Int32 × St) ⊕ St} (KB : ∀ (v0_ : Int32) (v1_ : St), w = .inl (v0_, v1_) → ∀ (H : Heap) (locs : List Loc) (ls : Array Slot), Wd g s v1_ H locs → lv_has ls 8 [(0, .ref (b)), (1, .ref (g.2.2 (0))), (2, .ref (g.2.2 (101))), (3, .ref (g.2.2 (122))), (4, .ref (g.2.2 (123))), (5, .int (v0_))] → W p l e room_1 s m args below meth c H locs (kc + 4) (nc + 24) Q (F0 m 28 ls [])) (KX : ∀ (v : St), w = .inr v → ∀ (H : Heap) (locs : List Loc) (ls : Array Slot), Wd g s v H locs → lv_has ls 8 [(0, .ref (b))] → W p l e room_1 s m args below meth c H locs (kc) (nc) Q (F0 m 1673 ls [])) {H : Heap} {locs : List Loc} {ls : Array Slot} (Y : Wd g s σ H locs) (hl : lv_has ls 8 [(0, .ref (b)), (1, .ref (g.2.2 (0))), (2, .ref (g.2.2 (101))), (3, .ref (g.2.2 (122))), (4, .ref (g.2.2 (123))), (5, .int (x5))]) (h : f_L_law_j1664 xs L x5 σ = some w) : W p l e room_1 s m args below meth c H locs (kc + 1) (nc + 6) Q (F0 m 1664 ls []) := by
  unfold f_L_law_j1664 at h
  refine lv_goto (tgt := 1667) X.1 X.2.1 (dk T_L_law_15 53 rfl) rfl ?_
  refine W.widen (k := kc + 4) (n := nc + 24) (by omega) (by omega) ?_
  exact w_L_law_j1667 X TX hst hX hbl hbA hkc hnc x5 σ KB KX Y (lv_sub hl [0, 1, 2, 3, 4, 5] rfl) h
def f_L_law_j1623 (xs : Nat → Int32) (L : Nat) (x5 : Int32) (σ : St) : Option ((Int32 × St) ⊕ St) :=
  (f_L_restoreSnapshot σ).bind fun q267 => (f_X11_restoreSnapshot q267.2).bind fun q268 => (f_X11_thrown q268.2).bind fun q269 => if q269 = q267.1 then if q267.1 = 0 then chk (inb 0 1) (if (lg_cmp ((q268.2 122 (0 : Int32).toNatClampNeg).toInt64) q268.1.toInt64) = 0 then f_L_law_j1664 xs L x5 q268.2 else none) else f_L_law_j1664 xs L x5 q268.2 else none
set_option maxHeartbeats 4000000 in
set_option maxRecDepth 100000 in
theorem w_L_law_j1623 (X : Cx g RL cL_law 8 (some .boolean) p s m args meth c) (TX : TXs g (GA g s.heap.size) s s.heap) (hst : l.stackTraces = false) {b L : Nat} {xs : Nat → Int32} (hX : va_X b L xs s s.heap) (hbl : b < s.heap.size) (hbA : ¬ GA g s.heap.size b) {kc nc : Nat} (hkc : kc + 4 ≤ room_1.cells) (hnc : nc + 24 ≤ room_1.slots) (x5 : Int32) (σ : St) {w : (Int32 × St) ⊕ St} (KB : ∀ (v0_ : Int32) (v1_ : St), w = .inl (v0_, v1_) → ∀ (H : Heap) (locs : List Loc) (ls : Array Slot), Wd g s v1_ H locs → lv_has ls 8 [(0, .ref (b)), (1, .ref (g.2.2 (0))), (2, .ref (g.2.2 (101))), (3, .ref (g.2.2 (122))), (4, .ref (g.2.2 (123))), (5, .int (v0_))] → W p l e room_1 s m args below meth c H locs (kc + 4) (nc + 24) Q (F0 m 28 ls [])) (KX : ∀ (v : St), w = .inr v → ∀ (H : Heap) (locs : List Loc) (ls : Array Slot), Wd g s v H locs → lv_has ls 8 [(0, .ref (b))] → W p l e room_1 s m args below meth c H locs (kc) (nc) Q (F0 m 1673 ls [])) {H : Heap} {locs : List Loc} {ls : Array Slot} (Y : Wd g s σ H locs) (hl : lv_has ls 8 [(0, .ref (b)), (1, .ref (g.2.2 (0))), (2, .ref (g.2.2 (101))), (3, .ref (g.2.2 (122))), (4, .ref (g.2.2 (123))), (5, .int (x5))]) (h : f_L_law_j1623 xs L x5 σ = some w) : W p l e room_1 s m args below meth c H locs (kc) (nc) Q (F0 m 1623 ls []) := by
  unfold f_L_law_j1623 at h
  refine lv_aload_n X.1 X.2.1 (dk T_L_law_15 29 rfl) rfl (lv_at hl 1 rfl) ?_
  refine lv_aload_n X.1 X.2.1 (dk T_L_law_15 30 rfl) rfl (lv_at hl 3 rfl) ?_
  obtain ⟨q267, hq267, h⟩ := bs h
  refine gsH (rest := []) X TX hst Y (c_L_restoreSnapshot σ hq267) cb_L_181 hl.1 rfl rfl (Nat.le_of_ble_eq_true rfl) ⟨(Nat.le_of_ble_eq_true rfl), (Nat.le_of_ble_eq_true rfl)⟩ ⟨law_le hkc (by decide), law_le hnc (by decide)⟩ (dk T_L_law_15 31 rfl) (fun H locs Y => ?_)
  refine lv_istore (lv' := [(6, .int (q267.1)), (0, .ref (b)), (1, .ref (g.2.2 (0))), (2, .ref (g.2.2 (101))), (3, .ref (g.2.2 (122))), (4, .ref (g.2.2 (123))), (5, .int (x5))]) X.1 X.2.1 (dk T_L_law_15 32 rfl) hl (Nat.le_of_ble_eq_true rfl) rfl (fun ls hl => ?_)
  refine lv_aload_n X.1 X.2.1 (dk T_L_law_15 33 rfl) rfl (lv_at hl 3 rfl) ?_
  obtain ⟨q268, hq268, h⟩ := bs h
  refine gvIx (rest := []) X Y (c_X11_restoreSnapshot q267.2 hq268) cb_L_183 rfl hl.1 rfl rfl (Nat.le_of_ble_eq_true rfl) ⟨(Nat.le_of_ble_eq_true rfl), (Nat.le_of_ble_eq_true rfl)⟩ ⟨law_le hkc (by decide), law_le hnc (by decide)⟩ (dk T_L_law_15 34 rfl) (fun H locs Y => ?_)
  refine lv_istore (lv' := [(7, .int (q268.1)), (6, .int (q267.1)), (0, .ref (b)), (1, .ref (g.2.2 (0))), (2, .ref (g.2.2 (101))), (3, .ref (g.2.2 (122))), (4, .ref (g.2.2 (123))), (5, .int (x5))]) X.1 X.2.1 (dk T_L_law_15 35 rfl) hl (Nat.le_of_ble_eq_true rfl) rfl (fun ls hl => ?_)
  refine lv_aload_n X.1 X.2.1 (dk T_L_law_15 36 rfl) rfl (lv_at hl 4 rfl) ?_
  obtain ⟨q269, hq269, h⟩ := bs h
  refine gvIx (rest := []) X Y (c_X11_thrown q268.2 hq269) cb_L_102 rfl hl.1 rfl rfl (Nat.le_of_ble_eq_true rfl) ⟨(Nat.le_of_ble_eq_true rfl), (Nat.le_of_ble_eq_true rfl)⟩ ⟨law_le hkc (by decide), law_le hnc (by decide)⟩ (dk T_L_law_15 37 rfl) (fun H locs Y => ?_)
  refine lv_iload X.1 X.2.1 (dk T_L_law_15 38 rfl) (lv_at hl 1 rfl) ?_
  refine lv_icmp_eq (tgt := 1647) X.1 X.2.1 (dk T_L_law_15 39 rfl) rfl (fun c270 => ?_) (fun c270 => ?_)
  · replace h := ipos c270 h
    refine lv_iload X.1 X.2.1 (dk T_L_law_15 42 rfl) (lv_at hl 1 rfl) ?_
    refine lv_if_ne (tgt := 1664) X.1 X.2.1 (dk T_L_law_15 43 rfl) rfl (fun c271 => ?_) (fun c271 => ?_)
    · replace h := ineg c271 h
      exact w_L_law_j1664 X TX hst hX hbl hbA hkc hnc x5 q268.2 KB KX Y (lv_sub hl [2, 3, 4, 5, 6, 7] rfl) h
    · replace h := ipos c271 h
      refine lv_aload_n X.1 X.2.1 (dk T_L_law_15 44 rfl) rfl (lv_at hl 5 rfl) ?_
      refine lv_iconst (v := 0) X.1 X.2.1 (dk T_L_law_15 45 rfl) ic_0 ?_
      obtain ⟨g272, h⟩ := gd h
      refine gll X Y rfl (inp g272) (dk T_L_law_15 46 rfl) ?_
      refine lv_iload X.1 X.2.1 (dk T_L_law_15 47 rfl) (lv_at hl 0 rfl) ?_
      refine lv_i2l X.1 X.2.1 (dk T_L_law_15 48 rfl) rfl ?_
      refine W.lcmp X.1 X.2.1 (dk T_L_law_15 49 rfl) ?_
      refine lv_if_eq (tgt := 1664) X.1 X.2.1 (dk T_L_law_15 50 rfl) rfl (fun c273 => ?_) (fun c273 => ?_)
      · replace h := ipos c273 h
        exact w_L_law_j1664 X TX hst hX hbl hbA hkc hnc x5 q268.2 KB KX Y (lv_sub hl [2, 3, 4, 5, 6, 7] rfl) h
      · replace h := ineg c273 h
        cases h
  · replace h := ineg c270 h
    cases h
def f_L_law_l28 (xs : Nat → Int32) (L : Nat) (x5 : Int32) (σ : St) : Option ((Int32 × St) ⊕ St) :=
  if ((Int32.ofNat L) - 6) < x5 then some (.inr σ) else chk (inb x5 L) (if ((xs x5.toNatClampNeg) &&& 31) = 0 then f_L_law_j156 xs L x5 σ else if ((xs x5.toNatClampNeg) &&& 31) = 1 then f_L_law_j236 xs L x5 σ else if ((xs x5.toNatClampNeg) &&& 31) = 2 then f_L_law_j340 xs L x5 σ else if ((xs x5.toNatClampNeg) &&& 31) = 3 then f_L_law_j408 xs L x5 σ else if ((xs x5.toNatClampNeg) &&& 31) = 4 then f_L_law_j476 xs L x5 σ else if ((xs x5.toNatClampNeg) &&& 31) = 5 then f_L_law_j544 xs L x5 σ else if ((xs x5.toNatClampNeg) &&& 31) = 6 then f_L_law_j612 xs L x5 σ else if ((xs x5.toNatClampNeg) &&& 31) = 7 then f_L_law_j680 xs L x5 σ else if ((xs x5.toNatClampNeg) &&& 31) = 8 then f_L_law_j784 xs L x5 σ else if ((xs x5.toNatClampNeg) &&& 31) = 9 then f_L_law_j840 xs L x5 σ else if ((xs x5.toNatClampNeg) &&& 31) = 10 then f_L_law_j908 xs L x5 σ else if ((xs x5.toNatClampNeg) &&& 31) = 11 then f_L_law_j992 xs L x5 σ else if ((xs x5.toNatClampNeg) &&& 31) = 12 then f_L_law_j1048 xs L x5 σ else if ((xs x5.toNatClampNeg) &&& 31) = 13 then f_L_law_j1061 xs L x5 σ else if ((xs x5.toNatClampNeg) &&& 31) = 14 then f_L_law_j1141 xs L x5 σ else if ((xs x5.toNatClampNeg) &&& 31) = 15 then f_L_law_j1209 xs L x5 σ else if ((xs x5.toNatClampNeg) &&& 31) = 16 then f_L_law_j1289 xs L x5 σ else if ((xs x5.toNatClampNeg) &&& 31) = 17 then f_L_law_j1355 xs L x5 σ else if ((xs x5.toNatClampNeg) &&& 31) = 18 then f_L_law_j1411 xs L x5 σ else if ((xs x5.toNatClampNeg) &&& 31) = 19 then f_L_law_j1469 xs L x5 σ else if ((xs x5.toNatClampNeg) &&& 31) = 20 then f_L_law_j1482 xs L x5 σ else if ((xs x5.toNatClampNeg) &&& 31) = 21 then f_L_law_j1566 xs L x5 σ else if ((xs x5.toNatClampNeg) &&& 31) = 22 then f_L_law_j1610 xs L x5 σ else if ((xs x5.toNatClampNeg) &&& 31) = 23 then f_L_law_j1623 xs L x5 σ else f_L_law_j1667 xs L x5 σ)
set_option maxHeartbeats 4000000 in
set_option maxRecDepth 100000 in
theorem w_L_law_l28 (X : Cx g RL cL_law 8 (some .boolean) p s m args meth c) (TX : TXs g (GA g s.heap.size) s s.heap) (hst : l.stackTraces = false) {b L : Nat} {xs : Nat → Int32} (hX : va_X b L xs s s.heap) (hbl : b < s.heap.size) (hbA : ¬ GA g s.heap.size b) {kc nc : Nat} (hkc : kc + 4 ≤ room_1.cells) (hnc : nc + 24 ≤ room_1.slots) (x5 : Int32) (σ : St) {w : (Int32 × St) ⊕ St} (KB : ∀ (v0_ : Int32) (v1_ : St), w = .inl (v0_, v1_) → ∀ (H : Heap) (locs : List Loc) (ls : Array Slot), Wd g s v1_ H locs → lv_has ls 8 [(0, .ref (b)), (1, .ref (g.2.2 (0))), (2, .ref (g.2.2 (101))), (3, .ref (g.2.2 (122))), (4, .ref (g.2.2 (123))), (5, .int (v0_))] → W p l e room_1 s m args below meth c H locs (kc + 4) (nc + 24) Q (F0 m 28 ls [])) (KX : ∀ (v : St), w = .inr v → ∀ (H : Heap) (locs : List Loc) (ls : Array Slot), Wd g s v H locs → lv_has ls 8 [(0, .ref (b))] → W p l e room_1 s m args below meth c H locs (kc) (nc) Q (F0 m 1673 ls [])) {H : Heap} {locs : List Loc} {ls : Array Slot} (Y : Wd g s σ H locs) (hl : lv_has ls 8 [(0, .ref (b)), (1, .ref (g.2.2 (0))), (2, .ref (g.2.2 (101))), (3, .ref (g.2.2 (122))), (4, .ref (g.2.2 (123))), (5, .int (x5))]) (h : f_L_law_l28 xs L x5 σ = some w) : W p l e room_1 s m args below meth c H locs (kc) (nc) Q (F0 m 28 ls []) := by
  unfold f_L_law_l28 at h
  refine lv_iload X.1 X.2.1 (dk T_L_law_0 16 rfl) (lv_at hl 5 rfl) ?_
  refine lv_aload_n X.1 X.2.1 (dk T_L_law_0 17 rfl) rfl (lv_at hl 0 rfl) ?_
  refine va_slen X.1 X.2.1 hX hbl hbA Y.2 (dk T_L_law_0 18 rfl) ?_
  refine lv_bipush (v := 6) X.1 X.2.1 (dk T_L_law_0 19 rfl) bp_6 ?_
  refine lv_isub X.1 X.2.1 (dk T_L_law_0 20 rfl) ?_
  refine lv_icmp_gt (tgt := 1673) X.1 X.2.1 (dk T_L_law_0 21 rfl) rfl (fun c1 => ?_) (fun c1 => ?_)
  · replace h := ipos c1 h
    exact KX σ (Option.some.inj h).symm _ _ _ Y (lv_sub hl [0] rfl)
  · replace h := ineg c1 h
    refine lv_aload_n X.1 X.2.1 (dk T_L_law_0 22 rfl) rfl (lv_at hl 0 rfl) ?_
    refine lv_iload X.1 X.2.1 (dk T_L_law_0 23 rfl) (lv_at hl 5 rfl) ?_
    obtain ⟨g2, h⟩ := gd h
    refine va_sld X.1 X.2.1 hX hbl hbA Y.2 (inp g2) (dk T_L_law_0 24 rfl) ?_
    refine lv_bipush (v := 31) X.1 X.2.1 (dk T_L_law_0 25 rfl) bp_31 ?_
    refine lv_iand X.1 X.2.1 (dk T_L_law_0 26 rfl) ?_
    rcases Decidable.em (((xs x5.toNatClampNeg) &&& 31) = 0) with c3 | c3
    · replace h := ipos c3 h
      refine lv_tableIn (tgt := 156) (off := 111) X.1 X.2.1 (dk T_L_law_0 27 rfl) (ts1 c3 (by decide)) (ts2 c3 (by decide)) (ts3 c3 (by decide)) rfl ?_
      exact w_L_law_j156 X TX hst hX hbl hbA hkc hnc x5 σ KB KX Y (lv_sub hl [0, 1, 2, 3, 4, 5] rfl) h
    replace h := ineg c3 h
    rcases Decidable.em (((xs x5.toNatClampNeg) &&& 31) = 1) with c17 | c17
    · replace h := ipos c17 h
      refine lv_tableIn (tgt := 236) (off := 191) X.1 X.2.1 (dk T_L_law_0 27 rfl) (ts1 c17 (by decide)) (ts2 c17 (by decide)) (ts3 c17 (by decide)) rfl ?_
      exact w_L_law_j236 X TX hst hX hbl hbA hkc hnc x5 σ KB KX Y (lv_sub hl [0, 1, 2, 3, 4, 5] rfl) h
    replace h := ineg c17 h
    rcases Decidable.em (((xs x5.toNatClampNeg) &&& 31) = 2) with c35 | c35
    · replace h := ipos c35 h
      refine lv_tableIn (tgt := 340) (off := 295) X.1 X.2.1 (dk T_L_law_0 27 rfl) (ts1 c35 (by decide)) (ts2 c35 (by decide)) (ts3 c35 (by decide)) rfl ?_
      exact w_L_law_j340 X TX hst hX hbl hbA hkc hnc x5 σ KB KX Y (lv_sub hl [0, 1, 2, 3, 4, 5] rfl) h
    replace h := ineg c35 h
    rcases Decidable.em (((xs x5.toNatClampNeg) &&& 31) = 3) with c47 | c47
    · replace h := ipos c47 h
      refine lv_tableIn (tgt := 408) (off := 363) X.1 X.2.1 (dk T_L_law_0 27 rfl) (ts1 c47 (by decide)) (ts2 c47 (by decide)) (ts3 c47 (by decide)) rfl ?_
      exact w_L_law_j408 X TX hst hX hbl hbA hkc hnc x5 σ KB KX Y (lv_sub hl [0, 1, 2, 3, 4, 5] rfl) h
    replace h := ineg c47 h
    rcases Decidable.em (((xs x5.toNatClampNeg) &&& 31) = 4) with c59 | c59
    · replace h := ipos c59 h
      refine lv_tableIn (tgt := 476) (off := 431) X.1 X.2.1 (dk T_L_law_0 27 rfl) (ts1 c59 (by decide)) (ts2 c59 (by decide)) (ts3 c59 (by decide)) rfl ?_
      exact w_L_law_j476 X TX hst hX hbl hbA hkc hnc x5 σ KB KX Y (lv_sub hl [0, 1, 2, 3, 4, 5] rfl) h
    replace h := ineg c59 h
    rcases Decidable.em (((xs x5.toNatClampNeg) &&& 31) = 5) with c71 | c71
    · replace h := ipos c71 h
      refine lv_tableIn (tgt := 544) (off := 499) X.1 X.2.1 (dk T_L_law_0 27 rfl) (ts1 c71 (by decide)) (ts2 c71 (by decide)) (ts3 c71 (by decide)) rfl ?_
      exact w_L_law_j544 X TX hst hX hbl hbA hkc hnc x5 σ KB KX Y (lv_sub hl [0, 1, 2, 3, 4, 5] rfl) h
    replace h := ineg c71 h
    rcases Decidable.em (((xs x5.toNatClampNeg) &&& 31) = 6) with c83 | c83
    · replace h := ipos c83 h
      refine lv_tableIn (tgt := 612) (off := 567) X.1 X.2.1 (dk T_L_law_0 27 rfl) (ts1 c83 (by decide)) (ts2 c83 (by decide)) (ts3 c83 (by decide)) rfl ?_
      exact w_L_law_j612 X TX hst hX hbl hbA hkc hnc x5 σ KB KX Y (lv_sub hl [0, 1, 2, 3, 4, 5] rfl) h
    replace h := ineg c83 h
    rcases Decidable.em (((xs x5.toNatClampNeg) &&& 31) = 7) with c95 | c95
    · replace h := ipos c95 h
      refine lv_tableIn (tgt := 680) (off := 635) X.1 X.2.1 (dk T_L_law_0 27 rfl) (ts1 c95 (by decide)) (ts2 c95 (by decide)) (ts3 c95 (by decide)) rfl ?_
      exact w_L_law_j680 X TX hst hX hbl hbA hkc hnc x5 σ KB KX Y (lv_sub hl [0, 1, 2, 3, 4, 5] rfl) h
    replace h := ineg c95 h
    rcases Decidable.em (((xs x5.toNatClampNeg) &&& 31) = 8) with c113 | c113
    · replace h := ipos c113 h
      refine lv_tableIn (tgt := 784) (off := 739) X.1 X.2.1 (dk T_L_law_0 27 rfl) (ts1 c113 (by decide)) (ts2 c113 (by decide)) (ts3 c113 (by decide)) rfl ?_
      exact w_L_law_j784 X TX hst hX hbl hbA hkc hnc x5 σ KB KX Y (lv_sub hl [0, 1, 2, 3, 4, 5] rfl) h
    replace h := ineg c113 h
    rcases Decidable.em (((xs x5.toNatClampNeg) &&& 31) = 9) with c123 | c123
    · replace h := ipos c123 h
      refine lv_tableIn (tgt := 840) (off := 795) X.1 X.2.1 (dk T_L_law_0 27 rfl) (ts1 c123 (by decide)) (ts2 c123 (by decide)) (ts3 c123 (by decide)) rfl ?_
      exact w_L_law_j840 X TX hst hX hbl hbA hkc hnc x5 σ KB KX Y (lv_sub hl [0, 1, 2, 3, 4, 5] rfl) h
    replace h := ineg c123 h
    rcases Decidable.em (((xs x5.toNatClampNeg) &&& 31) = 10) with c135 | c135
    · replace h := ipos c135 h
      refine lv_tableIn (tgt := 908) (off := 863) X.1 X.2.1 (dk T_L_law_0 27 rfl) (ts1 c135 (by decide)) (ts2 c135 (by decide)) (ts3 c135 (by decide)) rfl ?_
      exact w_L_law_j908 X TX hst hX hbl hbA hkc hnc x5 σ KB KX Y (lv_sub hl [0, 1, 2, 3, 4, 5] rfl) h
    replace h := ineg c135 h
    rcases Decidable.em (((xs x5.toNatClampNeg) &&& 31) = 11) with c149 | c149
    · replace h := ipos c149 h
      refine lv_tableIn (tgt := 992) (off := 947) X.1 X.2.1 (dk T_L_law_0 27 rfl) (ts1 c149 (by decide)) (ts2 c149 (by decide)) (ts3 c149 (by decide)) rfl ?_
      exact w_L_law_j992 X TX hst hX hbl hbA hkc hnc x5 σ KB KX Y (lv_sub hl [0, 1, 2, 3, 4, 5] rfl) h
    replace h := ineg c149 h
    rcases Decidable.em (((xs x5.toNatClampNeg) &&& 31) = 12) with c159 | c159
    · replace h := ipos c159 h
      refine lv_tableIn (tgt := 1048) (off := 1003) X.1 X.2.1 (dk T_L_law_0 27 rfl) (ts1 c159 (by decide)) (ts2 c159 (by decide)) (ts3 c159 (by decide)) rfl ?_
      exact w_L_law_j1048 X TX hst hX hbl hbA hkc hnc x5 σ KB KX Y (lv_sub hl [0, 1, 2, 3, 4, 5] rfl) h
    replace h := ineg c159 h
    rcases Decidable.em (((xs x5.toNatClampNeg) &&& 31) = 13) with c163 | c163
    · replace h := ipos c163 h
      refine lv_tableIn (tgt := 1061) (off := 1016) X.1 X.2.1 (dk T_L_law_0 27 rfl) (ts1 c163 (by decide)) (ts2 c163 (by decide)) (ts3 c163 (by decide)) rfl ?_
      exact w_L_law_j1061 X TX hst hX hbl hbA hkc hnc x5 σ KB KX Y (lv_sub hl [0, 1, 2, 3, 4, 5] rfl) h
    replace h := ineg c163 h
    rcases Decidable.em (((xs x5.toNatClampNeg) &&& 31) = 14) with c177 | c177
    · replace h := ipos c177 h
      refine lv_tableIn (tgt := 1141) (off := 1096) X.1 X.2.1 (dk T_L_law_0 27 rfl) (ts1 c177 (by decide)) (ts2 c177 (by decide)) (ts3 c177 (by decide)) rfl ?_
      exact w_L_law_j1141 X TX hst hX hbl hbA hkc hnc x5 σ KB KX Y (lv_sub hl [0, 1, 2, 3, 4, 5] rfl) h
    replace h := ineg c177 h
    rcases Decidable.em (((xs x5.toNatClampNeg) &&& 31) = 15) with c189 | c189
    · replace h := ipos c189 h
      refine lv_tableIn (tgt := 1209) (off := 1164) X.1 X.2.1 (dk T_L_law_0 27 rfl) (ts1 c189 (by decide)) (ts2 c189 (by decide)) (ts3 c189 (by decide)) rfl ?_
      exact w_L_law_j1209 X TX hst hX hbl hbA hkc hnc x5 σ KB KX Y (lv_sub hl [0, 1, 2, 3, 4, 5] rfl) h
    replace h := ineg c189 h
    rcases Decidable.em (((xs x5.toNatClampNeg) &&& 31) = 16) with c203 | c203
    · replace h := ipos c203 h
      refine lv_tableIn (tgt := 1289) (off := 1244) X.1 X.2.1 (dk T_L_law_0 27 rfl) (ts1 c203 (by decide)) (ts2 c203 (by decide)) (ts3 c203 (by decide)) rfl ?_
      exact w_L_law_j1289 X TX hst hX hbl hbA hkc hnc x5 σ KB KX Y (lv_sub hl [0, 1, 2, 3, 4, 5] rfl) h
    replace h := ineg c203 h
    rcases Decidable.em (((xs x5.toNatClampNeg) &&& 31) = 17) with c216 | c216
    · replace h := ipos c216 h
      refine lv_tableIn (tgt := 1355) (off := 1310) X.1 X.2.1 (dk T_L_law_0 27 rfl) (ts1 c216 (by decide)) (ts2 c216 (by decide)) (ts3 c216 (by decide)) rfl ?_
      exact w_L_law_j1355 X TX hst hX hbl hbA hkc hnc x5 σ KB KX Y (lv_sub hl [0, 1, 2, 3, 4, 5] rfl) h
    replace h := ineg c216 h
    rcases Decidable.em (((xs x5.toNatClampNeg) &&& 31) = 18) with c226 | c226
    · replace h := ipos c226 h
      refine lv_tableIn (tgt := 1411) (off := 1366) X.1 X.2.1 (dk T_L_law_0 27 rfl) (ts1 c226 (by decide)) (ts2 c226 (by decide)) (ts3 c226 (by decide)) rfl ?_
      exact w_L_law_j1411 X TX hst hX hbl hbA hkc hnc x5 σ KB KX Y (lv_sub hl [0, 1, 2, 3, 4, 5] rfl) h
    replace h := ineg c226 h
    rcases Decidable.em (((xs x5.toNatClampNeg) &&& 31) = 19) with c236 | c236
    · replace h := ipos c236 h
      refine lv_tableIn (tgt := 1469) (off := 1424) X.1 X.2.1 (dk T_L_law_0 27 rfl) (ts1 c236 (by decide)) (ts2 c236 (by decide)) (ts3 c236 (by decide)) rfl ?_
      exact w_L_law_j1469 X TX hst hX hbl hbA hkc hnc x5 σ KB KX Y (lv_sub hl [0, 1, 2, 3, 4, 5] rfl) h
    replace h := ineg c236 h
    rcases Decidable.em (((xs x5.toNatClampNeg) &&& 31) = 20) with c240 | c240
    · replace h := ipos c240 h
      refine lv_tableIn (tgt := 1482) (off := 1437) X.1 X.2.1 (dk T_L_law_0 27 rfl) (ts1 c240 (by decide)) (ts2 c240 (by decide)) (ts3 c240 (by decide)) rfl ?_
      exact w_L_law_j1482 X TX hst hX hbl hbA hkc hnc x5 σ KB KX Y (lv_sub hl [0, 1, 2, 3, 4, 5] rfl) h
    replace h := ineg c240 h
    rcases Decidable.em (((xs x5.toNatClampNeg) &&& 31) = 21) with c254 | c254
    · replace h := ipos c254 h
      refine lv_tableIn (tgt := 1566) (off := 1521) X.1 X.2.1 (dk T_L_law_0 27 rfl) (ts1 c254 (by decide)) (ts2 c254 (by decide)) (ts3 c254 (by decide)) rfl ?_
      exact w_L_law_j1566 X TX hst hX hbl hbA hkc hnc x5 σ KB KX Y (lv_sub hl [0, 1, 2, 3, 4, 5] rfl) h
    replace h := ineg c254 h
    rcases Decidable.em (((xs x5.toNatClampNeg) &&& 31) = 22) with c262 | c262
    · replace h := ipos c262 h
      refine lv_tableIn (tgt := 1610) (off := 1565) X.1 X.2.1 (dk T_L_law_0 27 rfl) (ts1 c262 (by decide)) (ts2 c262 (by decide)) (ts3 c262 (by decide)) rfl ?_
      exact w_L_law_j1610 X TX hst hX hbl hbA hkc hnc x5 σ KB KX Y (lv_sub hl [0, 1, 2, 3, 4, 5] rfl) h
    replace h := ineg c262 h
    rcases Decidable.em (((xs x5.toNatClampNeg) &&& 31) = 23) with c266 | c266
    · replace h := ipos c266 h
      refine lv_tableIn (tgt := 1623) (off := 1578) X.1 X.2.1 (dk T_L_law_0 27 rfl) (ts1 c266 (by decide)) (ts2 c266 (by decide)) (ts3 c266 (by decide)) rfl ?_
      exact w_L_law_j1623 X TX hst hX hbl hbA hkc hnc x5 σ KB KX Y (lv_sub hl [0, 1, 2, 3, 4, 5] rfl) h
    replace h := ineg c266 h
    refine lv_tableOut (tgt := 1667) X.1 X.2.1 (dk T_L_law_0 27 rfl) (ts24n c3 c17 c35 c47 c59 c71 c83 c95 c113 c123 c135 c149 c159 c163 c177 c189 c203 c216 c226 c236 c240 c254 c262 c266) rfl ?_
    refine W.widen (k := kc + 4) (n := nc + 24) (by omega) (by omega) ?_
    exact w_L_law_j1667 X TX hst hX hbl hbA hkc hnc x5 σ KB KX Y (lv_sub hl [0, 1, 2, 3, 4, 5] rfl) h
end
