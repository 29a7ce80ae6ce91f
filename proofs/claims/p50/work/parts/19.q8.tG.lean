theorem e0_Lw_draw : decode method_3_code 0 = .ok (.iload_n 2, 1) ∧ decode method_3_code 1 = .ok (.aload_n 0, 1) ∧ decode method_3_code 2 = .ok (.iload_n 1, 1) ∧ decode method_3_code 3 = .ok (.invokestatic 8, 3) ∧ decode method_3_code 6 = .ok (.ldc 14, 2) ∧ decode method_3_code 8 = .ok (.iand, 1) ∧ decode method_3_code 9 = .ok (.iload_n 3, 1) ∧ decode method_3_code 10 = .ok (.iload_n 2, 1) ∧ decode method_3_code 11 = .ok (.isub, 1) ∧ decode method_3_code 12 = .ok (.iconst 1, 1) ∧ decode method_3_code 13 = .ok (.iadd, 1) ∧ decode method_3_code 14 = .ok (.irem, 1) := by decide +kernel
theorem e1_Lw_draw : decode method_3_code 15 = .ok (.iadd, 1) ∧ decode method_3_code 16 = .ok (.ireturn, 1) := by decide +kernel
def T_Lw_draw (L : Nat) (xs : Nat → Int32) : TT := [(0, o_ild 2 1), (1, o_ald 0 2), (2, o_ild 1 3), (3, o_callG L xs M_Lw_cell 2 0 0 6), (6, o_push (.int (iI (2147483647))) 8), (8, o_iand 9), (9, o_ild 3 10), (10, o_ild 2 11), (11, o_isub 12), (12, o_push (.int (iI (1))) 13), (13, o_iadd 14), (14, o_irem 15), (15, o_iadd 16), (16, o_iret)]
theorem k_Lw_draw (L : Nat) (xs : Nat → Int32) : ∀ x ∈ T_Lw_draw L xs, SP (gS L xs) M_Lw_draw x.1 x.2 := by
  obtain ⟨h0, h1, h2, h3, h6, h8, h9, h10, h11, h12, h13, h14⟩ := e0_Lw_draw
  obtain ⟨h15, h16⟩ := e1_Lw_draw
  refine acP (SP_of (s_ildn (M := M_Lw_draw) (pc := 0) (k := 2) h0)) ?_
  refine acP (SP_of (s_aldn (M := M_Lw_draw) (pc := 1) (k := 0) h1)) ?_
  refine acP (SP_of (s_ildn (M := M_Lw_draw) (pc := 2) (k := 1) h2)) ?_
  refine acP (s_callG (M := M_Lw_draw) (pc := 3) (mc1 := 0) (ms1 := 0) (tz_Lw rfl) h3 q_Lw_cell wd660 wd661) ?_
  refine acP (SP_of (s_ldc (M := M_Lw_draw) (pc := 6) h6 wd664)) ?_
  refine acP (SP_of (s_iand (M := M_Lw_draw) (pc := 8) h8)) ?_
  refine acP (SP_of (s_ildn (M := M_Lw_draw) (pc := 9) (k := 3) h9)) ?_
  refine acP (SP_of (s_ildn (M := M_Lw_draw) (pc := 10) (k := 2) h10)) ?_
  refine acP (SP_of (s_isub (M := M_Lw_draw) (pc := 11) h11)) ?_
  refine acP (SP_of (s_iconst (M := M_Lw_draw) (pc := 12) h12 rfl)) ?_
  refine acP (SP_of (s_iadd (M := M_Lw_draw) (pc := 13) h13)) ?_
  refine acP (SP_of (s_irem (M := M_Lw_draw) (pc := 14) h14)) ?_
  refine acP (SP_of (s_iadd (M := M_Lw_draw) (pc := 15) h15)) ?_
  refine acP (SP_of (s_iret (M := M_Lw_draw) (pc := 16) h16 rfl)) ?_
  exact acP_nil
theorem e0_Lw_cell : decode method_2_code 0 = .ok (.iload_n 1, 1) ∧ decode method_2_code 1 = .ok (.aload_n 0, 1) ∧ decode method_2_code 2 = .ok (.arraylength, 1) ∧ decode method_2_code 3 = .ok (.if_icmp .ge 9, 3) ∧ decode method_2_code 6 = .ok (.aload_n 0, 1) ∧ decode method_2_code 7 = .ok (.iload_n 1, 1) ∧ decode method_2_code 8 = .ok (.iaload, 1) ∧ decode method_2_code 9 = .ok (.goto 11, 3) ∧ decode method_2_code 12 = .ok (.sipush 8191, 3) ∧ decode method_2_code 15 = .ok (.iload_n 1, 1) ∧ decode method_2_code 16 = .ok (.imul, 1) ∧ decode method_2_code 17 = .ok (.ldc 7, 2) := by decide +kernel
theorem e1_Lw_cell : decode method_2_code 19 = .ok (.iadd, 1) ∧ decode method_2_code 20 = .ok (.ireturn, 1) := by decide +kernel
def T_Lw_cell (L : Nat) (xs : Nat → Int32) : TT := [(0, o_ild 1 1), (1, o_ald 0 2), (2, o_sln L 3), (3, o_icmp_ge 12 6), (6, o_ald 0 7), (7, o_ild 1 8), (8, o_sld L xs 9), (9, o_goto 20), (12, o_push (.int (iI (8191))) 15), (15, o_ild 1 16), (16, o_imul 17), (17, o_push (.int (iI (131071))) 19), (19, o_iadd 20), (20, o_iret)]
theorem k_Lw_cell (L : Nat) (xs : Nat → Int32) : ∀ x ∈ T_Lw_cell L xs, SP (gS L xs) M_Lw_cell x.1 x.2 := by
  obtain ⟨h0, h1, h2, h3, h6, h7, h8, h9, h12, h15, h16, h17⟩ := e0_Lw_cell
  obtain ⟨h19, h20⟩ := e1_Lw_cell
  refine acP (SP_of (s_ildn (M := M_Lw_cell) (pc := 0) (k := 1) h0)) ?_
  refine acP (SP_of (s_aldn (M := M_Lw_cell) (pc := 1) (k := 0) h1)) ?_
  refine acP (s_sln (M := M_Lw_cell) (pc := 2) h2) ?_
  refine acP (SP_of (s_icmp_ge (M := M_Lw_cell) (pc := 3) h3 (by decide))) ?_
  refine acP (SP_of (s_aldn (M := M_Lw_cell) (pc := 6) (k := 0) h6)) ?_
  refine acP (SP_of (s_ildn (M := M_Lw_cell) (pc := 7) (k := 1) h7)) ?_
  refine acP (s_sld (M := M_Lw_cell) (pc := 8) h8) ?_
  refine acP (SP_of (s_goto (M := M_Lw_cell) (pc := 9) h9 (by decide))) ?_
  refine acP (SP_of (s_sipush (M := M_Lw_cell) (pc := 12) h12 (by decide))) ?_
  refine acP (SP_of (s_ildn (M := M_Lw_cell) (pc := 15) (k := 1) h15)) ?_
  refine acP (SP_of (s_imul (M := M_Lw_cell) (pc := 16) h16)) ?_
  refine acP (SP_of (s_ldc (M := M_Lw_cell) (pc := 17) h17 wd663)) ?_
  refine acP (SP_of (s_iadd (M := M_Lw_cell) (pc := 19) h19)) ?_
  refine acP (SP_of (s_iret (M := M_Lw_cell) (pc := 20) h20 rfl)) ?_
  exact acP_nil
theorem e0_Lw_setup : decode method_6_code 0 = .ok (.new 42, 3) ∧ decode method_6_code 3 = .ok (.dup, 1) ∧ decode method_6_code 4 = .ok (.ldc 44, 2) ∧ decode method_6_code 6 = .ok (.invokespecial 46, 3) ∧ decode method_6_code 9 = .ok (.astore_n 1, 1) ∧ decode method_6_code 10 = .ok (.bipush 13, 2) ∧ decode method_6_code 12 = .ok (.newarray .int, 2) ∧ decode method_6_code 14 = .ok (.dup, 1) ∧ decode method_6_code 15 = .ok (.iconst 0, 1) ∧ decode method_6_code 16 = .ok (.iconst 2, 1) ∧ decode method_6_code 17 = .ok (.iastore, 1) ∧ decode method_6_code 18 = .ok (.dup, 1) := by decide +kernel
theorem e1_Lw_setup : decode method_6_code 19 = .ok (.iconst 1, 1) ∧ decode method_6_code 20 = .ok (.iconst 3, 1) ∧ decode method_6_code 21 = .ok (.iastore, 1) ∧ decode method_6_code 22 = .ok (.dup, 1) ∧ decode method_6_code 23 = .ok (.iconst 2, 1) ∧ decode method_6_code 24 = .ok (.iconst 5, 1) ∧ decode method_6_code 25 = .ok (.iastore, 1) ∧ decode method_6_code 26 = .ok (.dup, 1) ∧ decode method_6_code 27 = .ok (.iconst 3, 1) ∧ decode method_6_code 28 = .ok (.bipush 7, 2) ∧ decode method_6_code 30 = .ok (.iastore, 1) ∧ decode method_6_code 31 = .ok (.dup, 1) := by decide +kernel
theorem e2_Lw_setup : decode method_6_code 32 = .ok (.iconst 4, 1) ∧ decode method_6_code 33 = .ok (.bipush 11, 2) ∧ decode method_6_code 35 = .ok (.iastore, 1) ∧ decode method_6_code 36 = .ok (.dup, 1) ∧ decode method_6_code 37 = .ok (.iconst 5, 1) ∧ decode method_6_code 38 = .ok (.bipush 13, 2) ∧ decode method_6_code 40 = .ok (.iastore, 1) ∧ decode method_6_code 41 = .ok (.dup, 1) ∧ decode method_6_code 42 = .ok (.bipush 6, 2) ∧ decode method_6_code 44 = .ok (.bipush 17, 2) ∧ decode method_6_code 46 = .ok (.iastore, 1) ∧ decode method_6_code 47 = .ok (.dup, 1) := by decide +kernel
theorem e3_Lw_setup : decode method_6_code 48 = .ok (.bipush 7, 2) ∧ decode method_6_code 50 = .ok (.bipush 19, 2) ∧ decode method_6_code 52 = .ok (.iastore, 1) ∧ decode method_6_code 53 = .ok (.dup, 1) ∧ decode method_6_code 54 = .ok (.bipush 8, 2) ∧ decode method_6_code 56 = .ok (.bipush 23, 2) ∧ decode method_6_code 58 = .ok (.iastore, 1) ∧ decode method_6_code 59 = .ok (.dup, 1) ∧ decode method_6_code 60 = .ok (.bipush 9, 2) ∧ decode method_6_code 62 = .ok (.bipush 29, 2) ∧ decode method_6_code 64 = .ok (.iastore, 1) ∧ decode method_6_code 65 = .ok (.dup, 1) := by decide +kernel
theorem e4_Lw_setup : decode method_6_code 66 = .ok (.bipush 10, 2) ∧ decode method_6_code 68 = .ok (.bipush 31, 2) ∧ decode method_6_code 70 = .ok (.iastore, 1) ∧ decode method_6_code 71 = .ok (.dup, 1) ∧ decode method_6_code 72 = .ok (.bipush 11, 2) ∧ decode method_6_code 74 = .ok (.bipush 37, 2) ∧ decode method_6_code 76 = .ok (.iastore, 1) ∧ decode method_6_code 77 = .ok (.dup, 1) ∧ decode method_6_code 78 = .ok (.bipush 12, 2) ∧ decode method_6_code 80 = .ok (.bipush 41, 2) ∧ decode method_6_code 82 = .ok (.iastore, 1) ∧ decode method_6_code 83 = .ok (.astore_n 2, 1) := by decide +kernel
theorem e5_Lw_setup : decode method_6_code 84 = .ok (.aload_n 0, 1) ∧ decode method_6_code 85 = .ok (.iconst 0, 1) ∧ decode method_6_code 86 = .ok (.iconst 3, 1) ∧ decode method_6_code 87 = .ok (.iconst 5, 1) ∧ decode method_6_code 88 = .ok (.invokestatic 49, 3) ∧ decode method_6_code 91 = .ok (.istore_n 3, 1) ∧ decode method_6_code 92 = .ok (.iconst 0, 1) ∧ decode method_6_code 93 = .ok (.istore 4, 2) ∧ decode method_6_code 95 = .ok (.iconst 0, 1) ∧ decode method_6_code 96 = .ok (.istore 5, 2) ∧ decode method_6_code 98 = .ok (.iload 5, 2) ∧ decode method_6_code 100 = .ok (.iload_n 3, 1) := by decide +kernel
theorem e6_Lw_setup : decode method_6_code 101 = .ok (.if_icmp .ge 47, 3) ∧ decode method_6_code 104 = .ok (.iload 4, 2) ∧ decode method_6_code 106 = .ok (.aload_n 0, 1) ∧ decode method_6_code 107 = .ok (.iconst 1, 1) ∧ decode method_6_code 108 = .ok (.iload 5, 2) ∧ decode method_6_code 110 = .ok (.iadd, 1) ∧ decode method_6_code 111 = .ok (.iload 5, 2) ∧ decode method_6_code 113 = .ok (.ifCond .ne 7, 3) ∧ decode method_6_code 116 = .ok (.iconst 0, 1) ∧ decode method_6_code 117 = .ok (.goto 4, 3) ∧ decode method_6_code 120 = .ok (.iconst 1, 1) ∧ decode method_6_code 121 = .ok (.iconst 2, 1) := by decide +kernel
theorem e7_Lw_setup : decode method_6_code 122 = .ok (.invokestatic 49, 3) ∧ decode method_6_code 125 = .ok (.iadd, 1) ∧ decode method_6_code 126 = .ok (.istore 4, 2) ∧ decode method_6_code 128 = .ok (.aload_n 1, 1) ∧ decode method_6_code 129 = .ok (.bipush 32, 2) ∧ decode method_6_code 131 = .ok (.invokevirtual 53, 3) ∧ decode method_6_code 134 = .ok (.aload_n 2, 1) ∧ decode method_6_code 135 = .ok (.iload 4, 2) ∧ decode method_6_code 137 = .ok (.iaload, 1) ∧ decode method_6_code 138 = .ok (.invokevirtual 57, 3) ∧ decode method_6_code 141 = .ok (.pop, 1) ∧ decode method_6_code 142 = .ok (.iinc 5 1, 3) := by decide +kernel
theorem e8_Lw_setup : decode method_6_code 145 = .ok (.goto (-47), 3) ∧ decode method_6_code 148 = .ok (.aload_n 1, 1) ∧ decode method_6_code 149 = .ok (.ldc 60, 2) ∧ decode method_6_code 151 = .ok (.invokevirtual 62, 3) ∧ decode method_6_code 154 = .ok (.aload_n 0, 1) ∧ decode method_6_code 155 = .ok (.bipush 6, 2) ∧ decode method_6_code 157 = .ok (.iconst 0, 1) ∧ decode method_6_code 158 = .ok (.iconst 2, 1) ∧ decode method_6_code 159 = .ok (.invokestatic 49, 3) ∧ decode method_6_code 162 = .ok (.invokevirtual 57, 3) ∧ decode method_6_code 165 = .ok (.ldc 65, 2) ∧ decode method_6_code 167 = .ok (.invokevirtual 62, 3) := by decide +kernel
theorem e9_Lw_setup : decode method_6_code 170 = .ok (.aload_n 0, 1) ∧ decode method_6_code 171 = .ok (.bipush 7, 2) ∧ decode method_6_code 173 = .ok (.iconst 0, 1) ∧ decode method_6_code 174 = .ok (.iconst 1, 1) ∧ decode method_6_code 175 = .ok (.invokestatic 49, 3) ∧ decode method_6_code 178 = .ok (.invokevirtual 57, 3) ∧ decode method_6_code 181 = .ok (.bipush 59, 2) ∧ decode method_6_code 183 = .ok (.invokevirtual 53, 3) ∧ decode method_6_code 186 = .ok (.invokevirtual 67, 3) ∧ decode method_6_code 189 = .ok (.areturn, 1) := by decide +kernel
def T_Lw_setup (L : Nat) (xs : Nat → Int32) : TT := [(0, o_new 9 4 [.null, .int (iI 0), .int (iI 0), .int (iI 0)] 3), (3, o_dup 4), (4, o_push (.ref 1008) 6), (6, o_callI M_jSB_init_LString 2 1 22 9), (9, o_ast 1 10), (10, o_push (.int (iI (13))) 12), (12, o_newai 1 14), (14, o_dup 15), (15, o_push (.int (iI (0))) 16), (16, o_push (.int (iI (2))) 17), (17, o_iast 18), (18, o_dup 19), (19, o_push (.int (iI (1))) 20), (20, o_push (.int (iI (3))) 21), (21, o_iast 22), (22, o_dup 23), (23, o_push (.int (iI (2))) 24), (24, o_push (.int (iI (5))) 25), (25, o_iast 26), (26, o_dup 27), (27, o_push (.int (iI (3))) 28), (28, o_push (.int (iI (7))) 30), (30, o_iast 31), (31, o_dup 32), (32, o_push (.int (iI (4))) 33), (33, o_push (.int (iI (11))) 35), (35, o_iast 36), (36, o_dup 37), (37, o_push (.int (iI (5))) 38), (38, o_push (.int (iI (13))) 40), (40, o_iast 41), (41, o_dup 42), (42, o_push (.int (iI (6))) 44), (44, o_push (.int (iI (17))) 46), (46, o_iast 47), (47, o_dup 48), (48, o_push (.int (iI (7))) 50), (50, o_push (.int (iI (19))) 52), (52, o_iast 53), (53, o_dup 54), (54, o_push (.int (iI (8))) 56), (56, o_push (.int (iI (23))) 58), (58, o_iast 59), (59, o_dup 60), (60, o_push (.int (iI (9))) 62), (62, o_push (.int (iI (29))) 64), (64, o_iast 65), (65, o_dup 66), (66, o_push (.int (iI (10))) 68), (68, o_push (.int (iI (31))) 70), (70, o_iast 71), (71, o_dup 72), (72, o_push (.int (iI (11))) 74), (74, o_push (.int (iI (37))) 76), (76, o_iast 77), (77, o_dup 78), (78, o_push (.int (iI (12))) 80), (80, o_push (.int (iI (41))) 82), (82, o_iast 83), (83, o_ast 2 84), (84, o_ald 0 85), (85, o_push (.int (iI (0))) 86), (86, o_push (.int (iI (3))) 87), (87, o_push (.int (iI (5))) 88), (88, o_callG L xs M_Lw_draw 4 0 0 91), (91, o_ist 3 92), (92, o_push (.int (iI (0))) 93), (93, o_ist 4 95), (95, o_push (.int (iI (0))) 96), (96, o_ist 5 98), (98, o_ild 5 100), (100, o_ild 3 101), (101, o_icmp_ge 148 104), (104, o_ild 4 106), (106, o_ald 0 107), (107, o_push (.int (iI (1))) 108), (108, o_ild 5 110), (110, o_iadd 111), (111, o_ild 5 113), (113, o_if_ne 120 116), (116, o_push (.int (iI (0))) 117), (117, o_goto 121), (120, o_push (.int (iI (1))) 121), (121, o_push (.int (iI (2))) 122), (122, o_callG L xs M_Lw_draw 4 0 0 125), (125, o_iadd 126), (126, o_ist 4 128), (128, o_ald 1 129), (129, o_push (.int (iI (32))) 131), (131, o_alt (o_callV M_jSB_append_C 9 2 134) (o_callVB M_jSB_append_C 9 2 1 46 134)), (134, o_ald 2 135), (135, o_ild 4 137), (137, o_iald 138), (138, o_alt (o_callV M_jSB_append_I 9 2 141) (o_callVB M_jSB_append_I 9 2 1 46 141)), (141, o_pop 142), (142, o_iinc 5 (iI (1)) 145), (145, o_goto 98), (148, o_ald 1 149), (149, o_push (.ref 1009) 151), (151, o_alt (o_callV M_jSB_append_LString 9 2 154) (o_callVB M_jSB_append_LString 9 2 1 46 154)), (154, o_ald 0 155), (155, o_push (.int (iI (6))) 157), (157, o_push (.int (iI (0))) 158), (158, o_push (.int (iI (2))) 159), (159, o_callG L xs M_Lw_draw 4 0 0 162), (162, o_alt (o_callV M_jSB_append_I 9 2 165) (o_callVB M_jSB_append_I 9 2 1 46 165)), (165, o_push (.ref 1010) 167), (167, o_alt (o_callV M_jSB_append_LString 9 2 170) (o_callVB M_jSB_append_LString 9 2 1 46 170)), (170, o_ald 0 171), (171, o_push (.int (iI (7))) 173), (173, o_push (.int (iI (0))) 174), (174, o_push (.int (iI (1))) 175), (175, o_callG L xs M_Lw_draw 4 0 0 178), (178, o_alt (o_callV M_jSB_append_I 9 2 181) (o_callVB M_jSB_append_I 9 2 1 46 181)), (181, o_push (.int (iI (59))) 183), (183, o_alt (o_callV M_jSB_append_C 9 2 186) (o_callVB M_jSB_append_C 9 2 1 46 186)), (186, o_callVB M_jSB_toString 9 1 2 50 189), (189, o_aret)]
theorem k_Lw_setup (L : Nat) (xs : Nat → Int32) : ∀ x ∈ T_Lw_setup L xs, SP (gS L xs) M_Lw_setup x.1 x.2 := by
  obtain ⟨h0, h3, h4, h6, h9, h10, h12, h14, h15, h16, h17, h18⟩ := e0_Lw_setup
  obtain ⟨h19, h20, h21, h22, h23, h24, h25, h26, h27, h28, h30, h31⟩ := e1_Lw_setup
  obtain ⟨h32, h33, h35, h36, h37, h38, h40, h41, h42, h44, h46, h47⟩ := e2_Lw_setup
  obtain ⟨h48, h50, h52, h53, h54, h56, h58, h59, h60, h62, h64, h65⟩ := e3_Lw_setup
  obtain ⟨h66, h68, h70, h71, h72, h74, h76, h77, h78, h80, h82, h83⟩ := e4_Lw_setup
  obtain ⟨h84, h85, h86, h87, h88, h91, h92, h93, h95, h96, h98, h100⟩ := e5_Lw_setup
  obtain ⟨h101, h104, h106, h107, h108, h110, h111, h113, h116, h117, h120, h121⟩ := e6_Lw_setup
  obtain ⟨h122, h125, h126, h128, h129, h131, h134, h135, h137, h138, h141, h142⟩ := e7_Lw_setup
  obtain ⟨h145, h148, h149, h151, h154, h155, h157, h158, h159, h162, h165, h167⟩ := e8_Lw_setup
  obtain ⟨h170, h171, h173, h174, h175, h178, h181, h183, h186, h189⟩ := e9_Lw_setup
  refine acP (SP_of (s_new (M := M_Lw_setup) (pc := 0) (T := TJ4) (N := 4) (fs := [.null, .int (iI 0), .int (iI 0), .int (iI 0)]) h0 rfl in_J4 tyJ4_ok wd930 wd220 wd30 (fun j hj => match j, hj with | 0, _ => rfl | 1, _ => rfl | 2, _ => rfl | 3, _ => rfl | j + 4, h => absurd h (by omega)) (fun _ => rfl))) ?_
  refine acP (SP_of (s_dup (M := M_Lw_setup) (pc := 3) h3)) ?_
  refine acP (SP_of (s_ldcS (M := M_Lw_setup) (pc := 4) (i := 8) h4 rfl)) ?_
  refine acP (SP_of (s_callI (M := M_Lw_setup) (pc := 6) (mc1 := 1) (ms1 := 22) (tz_Lw rfl) h6 q_jSB_init_LString rfl rfl wd932 wd933)) ?_
  refine acP (SP_of (s_astn (M := M_Lw_setup) (pc := 9) (k := 1) h9 (by decide))) ?_
  refine acP (SP_of (s_bipush (M := M_Lw_setup) (pc := 10) h10 (by decide))) ?_
  refine acP (SP_of (s_newai (M := M_Lw_setup) (pc := 12) (t := 1) h12 rfl (fun _ => rfl) wd97 (by decide) (fun _ _ => rfl))) ?_
  refine acP (SP_of (s_dup (M := M_Lw_setup) (pc := 14) h14)) ?_
  refine acP (SP_of (s_iconst (M := M_Lw_setup) (pc := 15) h15 rfl)) ?_
  refine acP (SP_of (s_iconst (M := M_Lw_setup) (pc := 16) h16 rfl)) ?_
  refine acP (SP_of (s_iast (M := M_Lw_setup) (pc := 17) h17)) ?_
  refine acP (SP_of (s_dup (M := M_Lw_setup) (pc := 18) h18)) ?_
  refine acP (SP_of (s_iconst (M := M_Lw_setup) (pc := 19) h19 rfl)) ?_
  refine acP (SP_of (s_iconst (M := M_Lw_setup) (pc := 20) h20 rfl)) ?_
  refine acP (SP_of (s_iast (M := M_Lw_setup) (pc := 21) h21)) ?_
  refine acP (SP_of (s_dup (M := M_Lw_setup) (pc := 22) h22)) ?_
  refine acP (SP_of (s_iconst (M := M_Lw_setup) (pc := 23) h23 rfl)) ?_
  refine acP (SP_of (s_iconst (M := M_Lw_setup) (pc := 24) h24 rfl)) ?_
  refine acP (SP_of (s_iast (M := M_Lw_setup) (pc := 25) h25)) ?_
  refine acP (SP_of (s_dup (M := M_Lw_setup) (pc := 26) h26)) ?_
  refine acP (SP_of (s_iconst (M := M_Lw_setup) (pc := 27) h27 rfl)) ?_
  refine acP (SP_of (s_bipush (M := M_Lw_setup) (pc := 28) h28 (by decide))) ?_
  refine acP (SP_of (s_iast (M := M_Lw_setup) (pc := 30) h30)) ?_
  refine acP (SP_of (s_dup (M := M_Lw_setup) (pc := 31) h31)) ?_
  refine acP (SP_of (s_iconst (M := M_Lw_setup) (pc := 32) h32 rfl)) ?_
  refine acP (SP_of (s_bipush (M := M_Lw_setup) (pc := 33) h33 (by decide))) ?_
  refine acP (SP_of (s_iast (M := M_Lw_setup) (pc := 35) h35)) ?_
  refine acP (SP_of (s_dup (M := M_Lw_setup) (pc := 36) h36)) ?_
  refine acP (SP_of (s_iconst (M := M_Lw_setup) (pc := 37) h37 rfl)) ?_
  refine acP (SP_of (s_bipush (M := M_Lw_setup) (pc := 38) h38 (by decide))) ?_
  refine acP (SP_of (s_iast (M := M_Lw_setup) (pc := 40) h40)) ?_
  refine acP (SP_of (s_dup (M := M_Lw_setup) (pc := 41) h41)) ?_
  refine acP (SP_of (s_bipush (M := M_Lw_setup) (pc := 42) h42 (by decide))) ?_
  refine acP (SP_of (s_bipush (M := M_Lw_setup) (pc := 44) h44 (by decide))) ?_
  refine acP (SP_of (s_iast (M := M_Lw_setup) (pc := 46) h46)) ?_
  refine acP (SP_of (s_dup (M := M_Lw_setup) (pc := 47) h47)) ?_
  refine acP (SP_of (s_bipush (M := M_Lw_setup) (pc := 48) h48 (by decide))) ?_
  refine acP (SP_of (s_bipush (M := M_Lw_setup) (pc := 50) h50 (by decide))) ?_
  refine acP (SP_of (s_iast (M := M_Lw_setup) (pc := 52) h52)) ?_
  refine acP (SP_of (s_dup (M := M_Lw_setup) (pc := 53) h53)) ?_
  refine acP (SP_of (s_bipush (M := M_Lw_setup) (pc := 54) h54 (by decide))) ?_
  refine acP (SP_of (s_bipush (M := M_Lw_setup) (pc := 56) h56 (by decide))) ?_
  refine acP (SP_of (s_iast (M := M_Lw_setup) (pc := 58) h58)) ?_
  refine acP (SP_of (s_dup (M := M_Lw_setup) (pc := 59) h59)) ?_
  refine acP (SP_of (s_bipush (M := M_Lw_setup) (pc := 60) h60 (by decide))) ?_
  refine acP (SP_of (s_bipush (M := M_Lw_setup) (pc := 62) h62 (by decide))) ?_
  refine acP (SP_of (s_iast (M := M_Lw_setup) (pc := 64) h64)) ?_
  refine acP (SP_of (s_dup (M := M_Lw_setup) (pc := 65) h65)) ?_
  refine acP (SP_of (s_bipush (M := M_Lw_setup) (pc := 66) h66 (by decide))) ?_
  refine acP (SP_of (s_bipush (M := M_Lw_setup) (pc := 68) h68 (by decide))) ?_
  refine acP (SP_of (s_iast (M := M_Lw_setup) (pc := 70) h70)) ?_
  refine acP (SP_of (s_dup (M := M_Lw_setup) (pc := 71) h71)) ?_
  refine acP (SP_of (s_bipush (M := M_Lw_setup) (pc := 72) h72 (by decide))) ?_
  refine acP (SP_of (s_bipush (M := M_Lw_setup) (pc := 74) h74 (by decide))) ?_
  refine acP (SP_of (s_iast (M := M_Lw_setup) (pc := 76) h76)) ?_
  refine acP (SP_of (s_dup (M := M_Lw_setup) (pc := 77) h77)) ?_
  refine acP (SP_of (s_bipush (M := M_Lw_setup) (pc := 78) h78 (by decide))) ?_
  refine acP (SP_of (s_bipush (M := M_Lw_setup) (pc := 80) h80 (by decide))) ?_
  refine acP (SP_of (s_iast (M := M_Lw_setup) (pc := 82) h82)) ?_
  refine acP (SP_of (s_astn (M := M_Lw_setup) (pc := 83) (k := 2) h83 (by decide))) ?_
  refine acP (SP_of (s_aldn (M := M_Lw_setup) (pc := 84) (k := 0) h84)) ?_
  refine acP (SP_of (s_iconst (M := M_Lw_setup) (pc := 85) h85 rfl)) ?_
  refine acP (SP_of (s_iconst (M := M_Lw_setup) (pc := 86) h86 rfl)) ?_
  refine acP (SP_of (s_iconst (M := M_Lw_setup) (pc := 87) h87 rfl)) ?_
  refine acP (s_callG (M := M_Lw_setup) (pc := 88) (mc1 := 0) (ms1 := 0) (tz_Lw rfl) h88 q_Lw_draw wd657 wd658) ?_
  refine acP (SP_of (s_istn (M := M_Lw_setup) (pc := 91) (k := 3) h91 (by decide))) ?_
  refine acP (SP_of (s_iconst (M := M_Lw_setup) (pc := 92) h92 rfl)) ?_
  refine acP (SP_of (s_ist (M := M_Lw_setup) (pc := 93) h93 (by decide))) ?_
  refine acP (SP_of (s_iconst (M := M_Lw_setup) (pc := 95) h95 rfl)) ?_
  refine acP (SP_of (s_ist (M := M_Lw_setup) (pc := 96) h96 (by decide))) ?_
  refine acP (SP_of (s_ild (M := M_Lw_setup) (pc := 98) h98)) ?_
  refine acP (SP_of (s_ildn (M := M_Lw_setup) (pc := 100) (k := 3) h100)) ?_
  refine acP (SP_of (s_icmp_ge (M := M_Lw_setup) (pc := 101) h101 (by decide))) ?_
  refine acP (SP_of (s_ild (M := M_Lw_setup) (pc := 104) h104)) ?_
  refine acP (SP_of (s_aldn (M := M_Lw_setup) (pc := 106) (k := 0) h106)) ?_
  refine acP (SP_of (s_iconst (M := M_Lw_setup) (pc := 107) h107 rfl)) ?_
  refine acP (SP_of (s_ild (M := M_Lw_setup) (pc := 108) h108)) ?_
  refine acP (SP_of (s_iadd (M := M_Lw_setup) (pc := 110) h110)) ?_
  refine acP (SP_of (s_ild (M := M_Lw_setup) (pc := 111) h111)) ?_
  refine acP (SP_of (s_if_ne (M := M_Lw_setup) (pc := 113) h113 (by decide))) ?_
  refine acP (SP_of (s_iconst (M := M_Lw_setup) (pc := 116) h116 rfl)) ?_
  refine acP (SP_of (s_goto (M := M_Lw_setup) (pc := 117) h117 (by decide))) ?_
  refine acP (SP_of (s_iconst (M := M_Lw_setup) (pc := 120) h120 rfl)) ?_
  refine acP (SP_of (s_iconst (M := M_Lw_setup) (pc := 121) h121 rfl)) ?_
  refine acP (s_callG (M := M_Lw_setup) (pc := 122) (mc1 := 0) (ms1 := 0) (tz_Lw rfl) h122 q_Lw_draw wd657 wd658) ?_
  refine acP (SP_of (s_iadd (M := M_Lw_setup) (pc := 125) h125)) ?_
  refine acP (SP_of (s_ist (M := M_Lw_setup) (pc := 126) h126 (by decide))) ?_
  refine acP (SP_of (s_aldn (M := M_Lw_setup) (pc := 128) (k := 1) h128)) ?_
  refine acP (SP_of (s_bipush (M := M_Lw_setup) (pc := 129) h129 (by decide))) ?_
  refine acP (SP_of (s_alt (M := M_Lw_setup) (pc := 131) (s_callV (tz_Lw rfl) h131 q_jSB_append_C wd1032 wd1033 wd1034 rfl (T := TJ4) (N := 4) rfl) (s_callVB (mc1 := 1) (ms1 := 46) (tz_Lw rfl) h131 q_jSB_append_C wd1032 wd1033 wd1034 rfl (T := TJ4) (N := 4) rfl))) ?_
  refine acP (SP_of (s_aldn (M := M_Lw_setup) (pc := 134) (k := 2) h134)) ?_
  refine acP (SP_of (s_ild (M := M_Lw_setup) (pc := 135) h135)) ?_
  refine acP (SP_of (s_iald (M := M_Lw_setup) (pc := 137) h137)) ?_
  refine acP (SP_of (s_alt (M := M_Lw_setup) (pc := 138) (s_callV (tz_Lw rfl) h138 q_jSB_append_I wd1045 wd1046 wd1047 rfl (T := TJ4) (N := 4) rfl) (s_callVB (mc1 := 1) (ms1 := 46) (tz_Lw rfl) h138 q_jSB_append_I wd1045 wd1046 wd1047 rfl (T := TJ4) (N := 4) rfl))) ?_
  refine acP (SP_of (s_pop (M := M_Lw_setup) (pc := 141) h141)) ?_
  refine acP (SP_of (s_iinc (M := M_Lw_setup) (pc := 142) h142 rfl (by decide))) ?_
  refine acP (SP_of (s_goto (M := M_Lw_setup) (pc := 145) h145 (by decide))) ?_
  refine acP (SP_of (s_aldn (M := M_Lw_setup) (pc := 148) (k := 1) h148)) ?_
  refine acP (SP_of (s_ldcS (M := M_Lw_setup) (pc := 149) (i := 9) h149 rfl)) ?_
  refine acP (SP_of (s_alt (M := M_Lw_setup) (pc := 151) (s_callV (tz_Lw rfl) h151 q_jSB_append_LString wd1071 wd949 wd950 rfl (T := TJ4) (N := 4) rfl) (s_callVB (mc1 := 1) (ms1 := 46) (tz_Lw rfl) h151 q_jSB_append_LString wd1071 wd949 wd950 rfl (T := TJ4) (N := 4) rfl))) ?_
  refine acP (SP_of (s_aldn (M := M_Lw_setup) (pc := 154) (k := 0) h154)) ?_
  refine acP (SP_of (s_bipush (M := M_Lw_setup) (pc := 155) h155 (by decide))) ?_
  refine acP (SP_of (s_iconst (M := M_Lw_setup) (pc := 157) h157 rfl)) ?_
  refine acP (SP_of (s_iconst (M := M_Lw_setup) (pc := 158) h158 rfl)) ?_
  refine acP (s_callG (M := M_Lw_setup) (pc := 159) (mc1 := 0) (ms1 := 0) (tz_Lw rfl) h159 q_Lw_draw wd657 wd658) ?_
  refine acP (SP_of (s_alt (M := M_Lw_setup) (pc := 162) (s_callV (tz_Lw rfl) h162 q_jSB_append_I wd1045 wd1046 wd1047 rfl (T := TJ4) (N := 4) rfl) (s_callVB (mc1 := 1) (ms1 := 46) (tz_Lw rfl) h162 q_jSB_append_I wd1045 wd1046 wd1047 rfl (T := TJ4) (N := 4) rfl))) ?_
  refine acP (SP_of (s_ldcS (M := M_Lw_setup) (pc := 165) (i := 10) h165 rfl)) ?_
  refine acP (SP_of (s_alt (M := M_Lw_setup) (pc := 167) (s_callV (tz_Lw rfl) h167 q_jSB_append_LString wd1071 wd949 wd950 rfl (T := TJ4) (N := 4) rfl) (s_callVB (mc1 := 1) (ms1 := 46) (tz_Lw rfl) h167 q_jSB_append_LString wd1071 wd949 wd950 rfl (T := TJ4) (N := 4) rfl))) ?_
  refine acP (SP_of (s_aldn (M := M_Lw_setup) (pc := 170) (k := 0) h170)) ?_
  refine acP (SP_of (s_bipush (M := M_Lw_setup) (pc := 171) h171 (by decide))) ?_
  refine acP (SP_of (s_iconst (M := M_Lw_setup) (pc := 173) h173 rfl)) ?_
  refine acP (SP_of (s_iconst (M := M_Lw_setup) (pc := 174) h174 rfl)) ?_
  refine acP (s_callG (M := M_Lw_setup) (pc := 175) (mc1 := 0) (ms1 := 0) (tz_Lw rfl) h175 q_Lw_draw wd657 wd658) ?_
  refine acP (SP_of (s_alt (M := M_Lw_setup) (pc := 178) (s_callV (tz_Lw rfl) h178 q_jSB_append_I wd1045 wd1046 wd1047 rfl (T := TJ4) (N := 4) rfl) (s_callVB (mc1 := 1) (ms1 := 46) (tz_Lw rfl) h178 q_jSB_append_I wd1045 wd1046 wd1047 rfl (T := TJ4) (N := 4) rfl))) ?_
  refine acP (SP_of (s_bipush (M := M_Lw_setup) (pc := 181) h181 (by decide))) ?_
  refine acP (SP_of (s_alt (M := M_Lw_setup) (pc := 183) (s_callV (tz_Lw rfl) h183 q_jSB_append_C wd1032 wd1033 wd1034 rfl (T := TJ4) (N := 4) rfl) (s_callVB (mc1 := 1) (ms1 := 46) (tz_Lw rfl) h183 q_jSB_append_C wd1032 wd1033 wd1034 rfl (T := TJ4) (N := 4) rfl))) ?_
  refine acP (SP_of (s_callVB (M := M_Lw_setup) (pc := 186) (mc1 := 2) (ms1 := 50) (tz_Lw rfl) h186 q_jSB_toString wd1073 wd1074 wd1075 rfl (T := TJ4) (N := 4) rfl)) ?_
  refine acP (SP_of (s_aret (M := M_Lw_setup) (pc := 189) h189 rfl (Or.inl ⟨_, rfl⟩))) ?_
  exact acP_nil
theorem e0_Lw_law : decode code 0 = .ok (.new 26, 3) ∧ decode code 3 = .ok (.dup, 1) ∧ decode code 4 = .ok (.invokespecial 172, 3) ∧ decode code 7 = .ok (.astore_n 1, 1) ∧ decode code 8 = .ok (.aload_n 1, 1) ∧ decode code 9 = .ok (.aload_n 0, 1) ∧ decode code 10 = .ok (.invokestatic 173, 3) ∧ decode code 13 = .ok (.invokestatic 177, 3) ∧ decode code 16 = .ok (.iconst 3, 1) ∧ decode code 17 = .ok (.if_icmp .lt 19, 3) ∧ decode code 20 = .ok (.aload_n 1, 1) ∧ decode code 21 = .ok (.invokestatic 158, 3) := by decide +kernel
theorem e1_Lw_law : decode code 24 = .ok (.ifCond .eq 12, 3) ∧ decode code 27 = .ok (.aload_n 1, 1) ∧ decode code 28 = .ok (.invokevirtual 162, 3) ∧ decode code 31 = .ok (.lconst 0, 1) ∧ decode code 32 = .ok (.lcmp, 1) ∧ decode code 33 = .ok (.ifCond .eq 5, 3) ∧ decode code 36 = .ok (.iconst 0, 1) ∧ decode code 37 = .ok (.ireturn, 1) ∧ decode code 38 = .ok (.aload_n 1, 1) ∧ decode code 39 = .ok (.iconst 2, 1) ∧ decode code 40 = .ok (.invokevirtual 78, 3) ∧ decode code 43 = .ok (.l2i, 1) := by decide +kernel
theorem e2_Lw_law : decode code 44 = .ok (.istore_n 2, 1) ∧ decode code 45 = .ok (.iconst 0, 1) ∧ decode code 46 = .ok (.istore_n 3, 1) ∧ decode code 47 = .ok (.iload_n 3, 1) ∧ decode code 48 = .ok (.iconst 5, 1) ∧ decode code 49 = .ok (.if_icmp .ge 73, 3) ∧ decode code 52 = .ok (.aload_n 0, 1) ∧ decode code 53 = .ok (.bipush 10, 2) ∧ decode code 55 = .ok (.iload_n 3, 1) ∧ decode code 56 = .ok (.iadd, 1) ∧ decode code 57 = .ok (.iconst 0, 1) ∧ decode code 58 = .ok (.iload_n 2, 1) := by decide +kernel
theorem e3_Lw_law : decode code 59 = .ok (.invokestatic 49, 3) ∧ decode code 62 = .ok (.iload_n 3, 1) ∧ decode code 63 = .ok (.iconst 2, 1) ∧ decode code 64 = .ok (.irem, 1) ∧ decode code 65 = .ok (.ifCond .ne 7, 3) ∧ decode code 68 = .ok (.iconst 1, 1) ∧ decode code 69 = .ok (.goto 4, 3) ∧ decode code 72 = .ok (.iconst (-1), 1) ∧ decode code 73 = .ok (.imul, 1) ∧ decode code 74 = .ok (.istore 4, 2) ∧ decode code 76 = .ok (.aload_n 1, 1) ∧ decode code 77 = .ok (.iload_n 3, 1) := by decide +kernel
theorem e4_Lw_law : decode code 78 = .ok (.iload 4, 2) ∧ decode code 80 = .ok (.invokevirtual 181, 3) ∧ decode code 83 = .ok (.ifCond .ne 31, 3) ∧ decode code 86 = .ok (.aload_n 1, 1) ∧ decode code 87 = .ok (.iload_n 3, 1) ∧ decode code 88 = .ok (.invokevirtual 104, 3) ∧ decode code 91 = .ok (.iload 4, 2) ∧ decode code 93 = .ok (.i2l, 1) ∧ decode code 94 = .ok (.lcmp, 1) ∧ decode code 95 = .ok (.ifCond .ne 19, 3) ∧ decode code 98 = .ok (.aload_n 1, 1) ∧ decode code 99 = .ok (.iload_n 3, 1) := by decide +kernel
theorem e5_Lw_law : decode code 100 = .ok (.invokevirtual 107, 3) ∧ decode code 103 = .ok (.ifCond .eq 11, 3) ∧ decode code 106 = .ok (.aload_n 1, 1) ∧ decode code 107 = .ok (.iload_n 3, 1) ∧ decode code 108 = .ok (.invokestatic 184, 3) ∧ decode code 111 = .ok (.ifCond .ne 5, 3) ∧ decode code 114 = .ok (.iconst 0, 1) ∧ decode code 115 = .ok (.ireturn, 1) ∧ decode code 116 = .ok (.iinc 3 1, 3) ∧ decode code 119 = .ok (.goto (-72), 3) ∧ decode code 122 = .ok (.aload_n 1, 1) ∧ decode code 123 = .ok (.iconst 5, 1) := by decide +kernel
theorem e6_Lw_law : decode code 124 = .ok (.iload_n 2, 1) ∧ decode code 125 = .ok (.iconst 1, 1) ∧ decode code 126 = .ok (.iadd, 1) ∧ decode code 127 = .ok (.invokevirtual 181, 3) ∧ decode code 130 = .ok (.iconst 5, 1) ∧ decode code 131 = .ok (.if_icmp .ne 31, 3) ∧ decode code 134 = .ok (.aload_n 1, 1) ∧ decode code 135 = .ok (.iconst 0, 1) ∧ decode code 136 = .ok (.invokevirtual 133, 3) ∧ decode code 139 = .ok (.iconst 5, 1) ∧ decode code 140 = .ok (.if_icmp .ne 22, 3) ∧ decode code 143 = .ok (.aload_n 1, 1) := by decide +kernel
theorem e7_Lw_law : decode code 144 = .ok (.iconst 5, 1) ∧ decode code 145 = .ok (.invokevirtual 133, 3) ∧ decode code 148 = .ok (.iconst 1, 1) ∧ decode code 149 = .ok (.if_icmp .ne 13, 3) ∧ decode code 152 = .ok (.aload_n 1, 1) ∧ decode code 153 = .ok (.iconst 3, 1) ∧ decode code 154 = .ok (.invokevirtual 71, 3) ∧ decode code 157 = .ok (.bipush 8, 2) ∧ decode code 159 = .ok (.if_icmp .eq 5, 3) ∧ decode code 162 = .ok (.iconst 0, 1) ∧ decode code 163 = .ok (.ireturn, 1) ∧ decode code 164 = .ok (.aload_n 0, 1) := by decide +kernel
theorem e8_Lw_law : decode code 165 = .ok (.bipush 15, 2) ∧ decode code 167 = .ok (.iconst 2, 1) ∧ decode code 168 = .ok (.bipush 14, 2) ∧ decode code 170 = .ok (.invokestatic 49, 3) ∧ decode code 173 = .ok (.istore_n 3, 1) ∧ decode code 174 = .ok (.iconst 0, 1) ∧ decode code 175 = .ok (.istore 4, 2) ∧ decode code 177 = .ok (.iload 4, 2) ∧ decode code 179 = .ok (.iload_n 3, 1) ∧ decode code 180 = .ok (.if_icmp .ge 86, 3) ∧ decode code 183 = .ok (.aload_n 0, 1) ∧ decode code 184 = .ok (.bipush 16, 2) := by decide +kernel
theorem e9_Lw_law : decode code 186 = .ok (.iconst 4, 1) ∧ decode code 187 = .ok (.iload 4, 2) ∧ decode code 189 = .ok (.imul, 1) ∧ decode code 190 = .ok (.iadd, 1) ∧ decode code 191 = .ok (.iconst 0, 1) ∧ decode code 192 = .ok (.bipush 7, 2) ∧ decode code 194 = .ok (.invokestatic 49, 3) ∧ decode code 197 = .ok (.istore 5, 2) ∧ decode code 199 = .ok (.aload_n 1, 1) ∧ decode code 200 = .ok (.aload_n 0, 1) ∧ decode code 201 = .ok (.bipush 17, 2) ∧ decode code 203 = .ok (.iconst 4, 1) := by decide +kernel
theorem e10_Lw_law : decode code 204 = .ok (.iload 4, 2) ∧ decode code 206 = .ok (.imul, 1) ∧ decode code 207 = .ok (.iadd, 1) ∧ decode code 208 = .ok (.iconst 0, 1) ∧ decode code 209 = .ok (.iconst 4, 1) ∧ decode code 210 = .ok (.invokestatic 49, 3) ∧ decode code 213 = .ok (.iload 5, 2) ∧ decode code 215 = .ok (.aload_n 0, 1) ∧ decode code 216 = .ok (.bipush 18, 2) ∧ decode code 218 = .ok (.iconst 4, 1) ∧ decode code 219 = .ok (.iload 4, 2) ∧ decode code 221 = .ok (.imul, 1) := by decide +kernel
theorem e11_Lw_law : decode code 222 = .ok (.iadd, 1) ∧ decode code 223 = .ok (.iconst 0, 1) ∧ decode code 224 = .ok (.bipush 7, 2) ∧ decode code 226 = .ok (.invokestatic 49, 3) ∧ decode code 229 = .ok (.aload_n 0, 1) ∧ decode code 230 = .ok (.bipush 19, 2) ∧ decode code 232 = .ok (.iconst 4, 1) ∧ decode code 233 = .ok (.iload 4, 2) ∧ decode code 235 = .ok (.imul, 1) ∧ decode code 236 = .ok (.iadd, 1) ∧ decode code 237 = .ok (.iconst 0, 1) ∧ decode code 238 = .ok (.bipush 7, 2) := by decide +kernel
theorem e12_Lw_law : decode code 240 = .ok (.invokestatic 49, 3) ∧ decode code 243 = .ok (.invokestatic 188, 3) ∧ decode code 246 = .ok (.ifCond .eq 12, 3) ∧ decode code 249 = .ok (.aload_n 1, 1) ∧ decode code 250 = .ok (.iload 5, 2) ∧ decode code 252 = .ok (.invokestatic 184, 3) ∧ decode code 255 = .ok (.ifCond .ne 5, 3) ∧ decode code 258 = .ok (.iconst 0, 1) ∧ decode code 259 = .ok (.ireturn, 1) ∧ decode code 260 = .ok (.iinc 4 1, 3) ∧ decode code 263 = .ok (.goto (-86), 3) ∧ decode code 266 = .ok (.aload_n 0, 1) := by decide +kernel
theorem e13_Lw_law : decode code 267 = .ok (.bipush 80, 2) ∧ decode code 269 = .ok (.iconst 0, 1) ∧ decode code 270 = .ok (.bipush 7, 2) ∧ decode code 272 = .ok (.invokestatic 49, 3) ∧ decode code 275 = .ok (.istore 4, 2) ∧ decode code 277 = .ok (.aload_n 0, 1) ∧ decode code 278 = .ok (.bipush 81, 2) ∧ decode code 280 = .ok (.iconst 0, 1) ∧ decode code 281 = .ok (.aload_n 1, 1) ∧ decode code 282 = .ok (.iconst 0, 1) ∧ decode code 283 = .ok (.invokevirtual 71, 3) ∧ decode code 286 = .ok (.iconst 1, 1) := by decide +kernel
theorem e14_Lw_law : decode code 287 = .ok (.isub, 1) ∧ decode code 288 = .ok (.invokestatic 49, 3) ∧ decode code 291 = .ok (.istore 5, 2) ∧ decode code 293 = .ok (.aload_n 1, 1) ∧ decode code 294 = .ok (.iload 4, 2) ∧ decode code 296 = .ok (.iload 5, 2) ∧ decode code 298 = .ok (.invokestatic 192, 3) ∧ decode code 301 = .ok (.ifCond .eq 69, 3) ∧ decode code 304 = .ok (.aload_n 1, 1) ∧ decode code 305 = .ok (.iload 4, 2) ∧ decode code 307 = .ok (.invokestatic 184, 3) ∧ decode code 310 = .ok (.ifCond .eq 60, 3) := by decide +kernel
theorem e15_Lw_law : decode code 313 = .ok (.aload_n 1, 1) ∧ decode code 314 = .ok (.iload 4, 2) ∧ decode code 316 = .ok (.iconst 0, 1) ∧ decode code 317 = .ok (.invokevirtual 196, 3) ∧ decode code 320 = .ok (.aload_n 1, 1) ∧ decode code 321 = .ok (.iload 4, 2) ∧ decode code 323 = .ok (.invokevirtual 104, 3) ∧ decode code 326 = .ok (.aload_n 1, 1) ∧ decode code 327 = .ok (.iconst 0, 1) ∧ decode code 328 = .ok (.invokevirtual 104, 3) ∧ decode code 331 = .ok (.invokestatic 199, 3) ∧ decode code 334 = .ok (.if_icmp .ne 36, 3) := by decide +kernel
theorem e16_Lw_law : decode code 337 = .ok (.aload_n 1, 1) ∧ decode code 338 = .ok (.iload 4, 2) ∧ decode code 340 = .ok (.bipush 97, 2) ∧ decode code 342 = .ok (.iconst 1, 1) ∧ decode code 343 = .ok (.invokevirtual 204, 3) ∧ decode code 346 = .ok (.i2l, 1) ∧ decode code 347 = .ok (.aload_n 1, 1) ∧ decode code 348 = .ok (.iload 4, 2) ∧ decode code 350 = .ok (.invokevirtual 104, 3) ∧ decode code 353 = .ok (.ldc2_w 208, 3) ∧ decode code 356 = .ok (.invokestatic 140, 3) ∧ decode code 359 = .ok (.lcmp, 1) := by decide +kernel
theorem e17_Lw_law : decode code 360 = .ok (.ifCond .ne 10, 3) ∧ decode code 363 = .ok (.aload_n 1, 1) ∧ decode code 364 = .ok (.invokestatic 210, 3) ∧ decode code 367 = .ok (.ifCond .ne 5, 3) ∧ decode code 370 = .ok (.iconst 0, 1) ∧ decode code 371 = .ok (.ireturn, 1) ∧ decode code 372 = .ok (.aload_n 1, 1) ∧ decode code 373 = .ok (.invokevirtual 213, 3) ∧ decode code 376 = .ok (.istore 6, 2) ∧ decode code 378 = .ok (.aload_n 1, 1) ∧ decode code 379 = .ok (.invokestatic 151, 3) ∧ decode code 382 = .ok (.lstore 7, 2) := by decide +kernel
theorem e18_Lw_law : decode code 384 = .ok (.aload_n 1, 1) ∧ decode code 385 = .ok (.iload 4, 2) ∧ decode code 387 = .ok (.aload_n 0, 1) ∧ decode code 388 = .ok (.bipush 82, 2) ∧ decode code 390 = .ok (.iconst 0, 1) ∧ decode code 391 = .ok (.iload_n 2, 1) ∧ decode code 392 = .ok (.invokestatic 49, 3) ∧ decode code 395 = .ok (.invokevirtual 181, 3) ∧ decode code 398 = .ok (.ifCond .eq 5, 3) ∧ decode code 401 = .ok (.iconst 0, 1) ∧ decode code 402 = .ok (.ireturn, 1) ∧ decode code 403 = .ok (.aload_n 1, 1) := by decide +kernel
theorem e19_Lw_law : decode code 404 = .ok (.iload 4, 2) ∧ decode code 406 = .ok (.invokevirtual 104, 3) ∧ decode code 409 = .ok (.lstore 9, 2) ∧ decode code 411 = .ok (.aload_n 0, 1) ∧ decode code 412 = .ok (.bipush 83, 2) ∧ decode code 414 = .ok (.iconst 0, 1) ∧ decode code 415 = .ok (.aload_n 1, 1) ∧ decode code 416 = .ok (.iload 5, 2) ∧ decode code 418 = .ok (.invokevirtual 75, 3) ∧ decode code 421 = .ok (.iconst 1, 1) ∧ decode code 422 = .ok (.isub, 1) ∧ decode code 423 = .ok (.invokestatic 49, 3) := by decide +kernel
theorem e20_Lw_law : decode code 426 = .ok (.istore 11, 2) ∧ decode code 428 = .ok (.aload_n 1, 1) ∧ decode code 429 = .ok (.iload 4, 2) ∧ decode code 431 = .ok (.iload 5, 2) ∧ decode code 433 = .ok (.iload 11, 2) ∧ decode code 435 = .ok (.invokevirtual 216, 3) ∧ decode code 438 = .ok (.lstore 12, 2) ∧ decode code 440 = .ok (.aload_n 1, 1) ∧ decode code 441 = .ok (.iload 4, 2) ∧ decode code 443 = .ok (.iload 5, 2) ∧ decode code 445 = .ok (.iload 11, 2) ∧ decode code 447 = .ok (.invokevirtual 219, 3) := by decide +kernel
theorem e21_Lw_law : decode code 450 = .ok (.istore 14, 2) ∧ decode code 452 = .ok (.aload_n 1, 1) ∧ decode code 453 = .ok (.iload 4, 2) ∧ decode code 455 = .ok (.invokevirtual 104, 3) ∧ decode code 458 = .ok (.lload 12, 2) ∧ decode code 460 = .ok (.lcmp, 1) ∧ decode code 461 = .ok (.ifCond .ne 55, 3) ∧ decode code 464 = .ok (.aload_n 1, 1) ∧ decode code 465 = .ok (.iload 4, 2) ∧ decode code 467 = .ok (.iload 5, 2) ∧ decode code 469 = .ok (.invokevirtual 87, 3) ∧ decode code 472 = .ok (.iload 11, 2) := by decide +kernel
theorem e22_Lw_law : decode code 474 = .ok (.if_icmp .ne 42, 3) ∧ decode code 477 = .ok (.aload_n 1, 1) ∧ decode code 478 = .ok (.iload 4, 2) ∧ decode code 480 = .ok (.invokevirtual 107, 3) ∧ decode code 483 = .ok (.ifCond .ne 35, 3) ∧ decode code 486 = .ok (.aload_n 1, 1) ∧ decode code 487 = .ok (.iload 4, 2) ∧ decode code 489 = .ok (.invokevirtual 110, 3) ∧ decode code 492 = .ok (.iload 5, 2) ∧ decode code 494 = .ok (.ishr, 1) ∧ decode code 495 = .ok (.iconst 1, 1) ∧ decode code 496 = .ok (.iand, 1) := by decide +kernel
theorem e23_Lw_law : decode code 497 = .ok (.ifCond .eq 19, 3) ∧ decode code 500 = .ok (.aload_n 1, 1) ∧ decode code 501 = .ok (.iload 4, 2) ∧ decode code 503 = .ok (.iload 5, 2) ∧ decode code 505 = .ok (.iload 14, 2) ∧ decode code 507 = .ok (.invokevirtual 216, 3) ∧ decode code 510 = .ok (.lload 9, 2) ∧ decode code 512 = .ok (.lcmp, 1) ∧ decode code 513 = .ok (.ifCond .eq 5, 3) ∧ decode code 516 = .ok (.iconst 0, 1) ∧ decode code 517 = .ok (.ireturn, 1) ∧ decode code 518 = .ok (.aload_n 1, 1) := by decide +kernel
theorem e24_Lw_law : decode code 519 = .ok (.iload 4, 2) ∧ decode code 521 = .ok (.invokevirtual 110, 3) ∧ decode code 524 = .ok (.istore 15, 2) ∧ decode code 526 = .ok (.aload_n 1, 1) ∧ decode code 527 = .ok (.iload 4, 2) ∧ decode code 529 = .ok (.invokevirtual 222, 3) ∧ decode code 532 = .ok (.aload_n 1, 1) ∧ decode code 533 = .ok (.iload 4, 2) ∧ decode code 535 = .ok (.invokevirtual 107, 3) ∧ decode code 538 = .ok (.ifCond .eq 12, 3) ∧ decode code 541 = .ok (.iload 15, 2) ∧ decode code 543 = .ok (.ifCond .ne 7, 3) := by decide +kernel
theorem e25_Lw_law : decode code 546 = .ok (.iconst 3, 1) ∧ decode code 547 = .ok (.goto 4, 3) ∧ decode code 550 = .ok (.iconst 0, 1) ∧ decode code 551 = .ok (.if_icmp .ne 17, 3) ∧ decode code 554 = .ok (.iload 15, 2) ∧ decode code 556 = .ok (.ifCond .eq 14, 3) ∧ decode code 559 = .ok (.aload_n 1, 1) ∧ decode code 560 = .ok (.iload 4, 2) ∧ decode code 562 = .ok (.invokevirtual 107, 3) ∧ decode code 565 = .ok (.ifCond .ne 5, 3) ∧ decode code 568 = .ok (.iconst 0, 1) ∧ decode code 569 = .ok (.ireturn, 1) := by decide +kernel
theorem e26_Lw_law : decode code 570 = .ok (.aload_n 1, 1) ∧ decode code 571 = .ok (.invokevirtual 225, 3) ∧ decode code 574 = .ok (.iload 6, 2) ∧ decode code 576 = .ok (.if_icmp .ne 35, 3) ∧ decode code 579 = .ok (.aload_n 1, 1) ∧ decode code 580 = .ok (.invokestatic 151, 3) ∧ decode code 583 = .ok (.lload 7, 2) ∧ decode code 585 = .ok (.lcmp, 1) ∧ decode code 586 = .ok (.ifCond .ne 25, 3) ∧ decode code 589 = .ok (.aload_n 1, 1) ∧ decode code 590 = .ok (.bipush 6, 2) ∧ decode code 592 = .ok (.invokevirtual 71, 3) := by decide +kernel
theorem e27_Lw_law : decode code 595 = .ok (.ifCond .ne 16, 3) ∧ decode code 598 = .ok (.aload_n 1, 1) ∧ decode code 599 = .ok (.invokevirtual 162, 3) ∧ decode code 602 = .ok (.lconst 0, 1) ∧ decode code 603 = .ok (.lcmp, 1) ∧ decode code 604 = .ok (.ifCond .ne 7, 3) ∧ decode code 607 = .ok (.iconst 1, 1) ∧ decode code 608 = .ok (.goto 4, 3) ∧ decode code 611 = .ok (.iconst 0, 1) ∧ decode code 612 = .ok (.ireturn, 1) := by decide +kernel
def T_Lw_law (L : Nat) (xs : Nat → Int32) : TT := [(0, o_new 0 12 [.null, .int (iI 0), .null, .null, .null, .int (iI 0), .null, .null, .null, .int (iI 0), .int (iI 0), .null] 3), (3, o_dup 4), (4, o_callI M_R_init 1 92 7051 7), (7, o_ast 1 8), (8, o_ald 1 9), (9, o_ald 0 10), (10, o_callG L xs M_Lw_setup 1 6 240 13), (13, o_callB M_Lw_loaded 2 3 15 16), (16, o_push (.int (iI (3))) 17), (17, o_icmp_lt 36 20), (20, o_ald 1 21), (21, o_call M_Lw_isBounded 1 24), (24, o_if_eq 36 27), (27, o_ald 1 28), (28, o_callV M_R_gap 0 1 31), (31, o_push (.long (lI 0)) 32), (32, o_lc_eq 38 36), (36, o_push (.int (iI (0))) 37), (37, o_zret), (38, o_ald 1 39), (39, o_push (.int (iI (2))) 40), (40, o_callV M_R_bound 0 2 43), (43, o_l2i 44), (44, o_ist 2 45), (45, o_push (.int (iI (0))) 46), (46, o_ist 3 47), (47, o_ild 3 48), (48, o_push (.int (iI (5))) 49), (49, o_icmp_ge 122 52), (52, o_ald 0 53), (53, o_push (.int (iI (10))) 55), (55, o_ild 3 56), (56, o_iadd 57), (57, o_push (.int (iI (0))) 58), (58, o_ild 2 59), (59, o_callG L xs M_Lw_draw 4 0 0 62), (62, o_ild 3 63), (63, o_push (.int (iI (2))) 64), (64, o_irem 65), (65, o_if_ne 72 68), (68, o_push (.int (iI (1))) 69), (69, o_goto 73), (72, o_push (.int (iI (-1))) 73), (73, o_imul 74), (74, o_ist 4 76), (76, o_ald 1 77), (77, o_ild 3 78), (78, o_ild 4 80), (80, o_callV M_R_set 0 3 83), (83, o_if_ne 114 86), (86, o_ald 1 87), (87, o_ild 3 88), (88, o_callV M_R_number 0 2 91), (91, o_ild 4 93), (93, o_i2l 94), (94, o_lc_ne 114 98), (98, o_ald 1 99), (99, o_ild 3 100), (100, o_callV M_R_isSound 0 2 103), (103, o_if_eq 114 106), (106, o_ald 1 107), (107, o_ild 3 108), (108, o_call M_Lw_isTold 2 111), (111, o_if_ne 116 114), (114, o_push (.int (iI (0))) 115), (115, o_zret), (116, o_iinc 3 (iI (1)) 119), (119, o_goto 47), (122, o_ald 1 123), (123, o_push (.int (iI (5))) 124), (124, o_ild 2 125), (125, o_push (.int (iI (1))) 126), (126, o_iadd 127), (127, o_callV M_R_set 0 3 130), (130, o_push (.int (iI (5))) 131), (131, o_icmp_ne 162 134), (134, o_ald 1 135), (135, o_push (.int (iI (0))) 136), (136, o_callV M_R_account 0 2 139), (139, o_push (.int (iI (5))) 140), (140, o_icmp_ne 162 143), (143, o_ald 1 144), (144, o_push (.int (iI (5))) 145), (145, o_callV M_R_account 0 2 148), (148, o_push (.int (iI (1))) 149), (149, o_icmp_ne 162 152), (152, o_ald 1 153), (153, o_push (.int (iI (3))) 154), (154, o_callV M_R_count 0 2 157), (157, o_push (.int (iI (8))) 159), (159, o_icmp_eq 164 162), (162, o_push (.int (iI (0))) 163), (163, o_zret), (164, o_ald 0 165), (165, o_push (.int (iI (15))) 167), (167, o_push (.int (iI (2))) 168), (168, o_push (.int (iI (14))) 170), (170, o_callG L xs M_Lw_draw 4 0 0 173), (173, o_ist 3 174), (174, o_push (.int (iI (0))) 175), (175, o_ist 4 177), (177, o_ild 4 179), (179, o_ild 3 180), (180, o_icmp_ge 266 183), (183, o_ald 0 184), (184, o_push (.int (iI (16))) 186), (186, o_push (.int (iI (4))) 187), (187, o_ild 4 189), (189, o_imul 190), (190, o_iadd 191), (191, o_push (.int (iI (0))) 192), (192, o_push (.int (iI (7))) 194), (194, o_callG L xs M_Lw_draw 4 0 0 197), (197, o_ist 5 199), (199, o_ald 1 200), (200, o_ald 0 201), (201, o_push (.int (iI (17))) 203), (203, o_push (.int (iI (4))) 204), (204, o_ild 4 206), (206, o_imul 207), (207, o_iadd 208), (208, o_push (.int (iI (0))) 209), (209, o_push (.int (iI (4))) 210), (210, o_callG L xs M_Lw_draw 4 0 0 213), (213, o_ild 5 215), (215, o_ald 0 216), (216, o_push (.int (iI (18))) 218), (218, o_push (.int (iI (4))) 219), (219, o_ild 4 221), (221, o_imul 222), (222, o_iadd 223), (223, o_push (.int (iI (0))) 224), (224, o_push (.int (iI (7))) 226), (226, o_callG L xs M_Lw_draw 4 0 0 229), (229, o_ald 0 230), (230, o_push (.int (iI (19))) 232), (232, o_push (.int (iI (4))) 233), (233, o_ild 4 235), (235, o_imul 236), (236, o_iadd 237), (237, o_push (.int (iI (0))) 238), (238, o_push (.int (iI (7))) 240), (240, o_callG L xs M_Lw_draw 4 0 0 243), (243, o_call M_Lw_isOperated 5 246), (246, o_if_eq 258 249), (249, o_ald 1 250), (250, o_ild 5 252), (252, o_call M_Lw_isTold 2 255), (255, o_if_ne 260 258), (258, o_push (.int (iI (0))) 259), (259, o_zret), (260, o_iinc 4 (iI (1)) 263), (263, o_goto 177), (266, o_ald 0 267), (267, o_push (.int (iI (80))) 269), (269, o_push (.int (iI (0))) 270), (270, o_push (.int (iI (7))) 272), (272, o_callG L xs M_Lw_draw 4 0 0 275), (275, o_ist 4 277), (277, o_ald 0 278), (278, o_push (.int (iI (81))) 280), (280, o_push (.int (iI (0))) 281), (281, o_ald 1 282), (282, o_push (.int (iI (0))) 283), (283, o_callV M_R_count 0 2 286), (286, o_push (.int (iI (1))) 287), (287, o_isub 288), (288, o_callG L xs M_Lw_draw 4 0 0 291), (291, o_ist 5 293), (293, o_ald 1 294), (294, o_ild 4 296), (296, o_ild 5 298), (298, o_call M_Lw_isScaled 3 301), (301, o_if_eq 370 304), (304, o_ald 1 305), (305, o_ild 4 307), (307, o_call M_Lw_isTold 2 310), (310, o_if_eq 370 313), (313, o_ald 1 314), (314, o_ild 4 316), (316, o_push (.int (iI (0))) 317), (317, o_callV M_R_compare 0 3 320), (320, o_ald 1 321), (321, o_ild 4 323), (323, o_callV M_R_number 0 2 326), (326, o_ald 1 327), (327, o_push (.int (iI (0))) 328), (328, o_callV M_R_number 0 2 331), (331, o_call M_jLong_compare 2 334), (334, o_icmp_ne 370 337), (337, o_ald 1 338), (338, o_ild 4 340), (340, o_push (.int (iI (97))) 342), (342, o_push (.int (iI (1))) 343), (343, o_callV M_R_extend 0 4 346), (346, o_i2l 347), (347, o_ald 1 348), (348, o_ild 4 350), (350, o_callV M_R_number 0 2 353), (353, o_push (.long (lI (97))) 356), (356, o_call M_jMath_floorMod 2 359), (359, o_lc_ne 370 363), (363, o_ald 1 364), (364, o_call M_Lw_isGrown 1 367), (367, o_if_ne 372 370), (370, o_push (.int (iI (0))) 371), (371, o_zret), (372, o_ald 1 373), (373, o_callV M_R_saveState 0 1 376), (376, o_ist 6 378), (378, o_ald 1 379), (379, o_call M_Lw_sum 1 382), (382, o_lst 7 384), (384, o_ald 1 385), (385, o_ild 4 387), (387, o_ald 0 388), (388, o_push (.int (iI (82))) 390), (390, o_push (.int (iI (0))) 391), (391, o_ild 2 392), (392, o_callG L xs M_Lw_draw 4 0 0 395), (395, o_callV M_R_set 0 3 398), (398, o_if_eq 403 401), (401, o_push (.int (iI (0))) 402), (402, o_zret), (403, o_ald 1 404), (404, o_ild 4 406), (406, o_callV M_R_number 0 2 409), (409, o_lst 9 411), (411, o_ald 0 412), (412, o_push (.int (iI (83))) 414), (414, o_push (.int (iI (0))) 415), (415, o_ald 1 416), (416, o_ild 5 418), (418, o_callV M_R_modulus 0 2 421), (421, o_push (.int (iI (1))) 422), (422, o_isub 423), (423, o_callG L xs M_Lw_draw 4 0 0 426), (426, o_ist 11 428), (428, o_ald 1 429), (429, o_ild 4 431), (431, o_ild 5 433), (433, o_ild 11 435), (435, o_callV M_R_numberWith 0 4 438), (438, o_lst 12 440), (440, o_ald 1 441), (441, o_ild 4 443), (443, o_ild 5 445), (445, o_ild 11 447), (447, o_callV M_R_hurt 0 4 450), (450, o_ist 14 452), (452, o_ald 1 453), (453, o_ild 4 455), (455, o_callV M_R_number 0 2 458), (458, o_lld 12 460), (460, o_lc_ne 516 464), (464, o_ald 1 465), (465, o_ild 4 467), (467, o_ild 5 469), (469, o_callV M_R_rest 0 3 472), (472, o_ild 11 474), (474, o_icmp_ne 516 477), (477, o_ald 1 478), (478, o_ild 4 480), (480, o_callV M_R_isSound 0 2 483), (483, o_if_ne 518 486), (486, o_ald 1 487), (487, o_ild 4 489), (489, o_callV M_R_faults 0 2 492), (492, o_ild 5 494), (494, o_ishr 495), (495, o_push (.int (iI (1))) 496), (496, o_iand 497), (497, o_if_eq 516 500), (500, o_ald 1 501), (501, o_ild 4 503), (503, o_ild 5 505), (505, o_ild 14 507), (507, o_callV M_R_numberWith 0 4 510), (510, o_lld 9 512), (512, o_lc_eq 518 516), (516, o_push (.int (iI (0))) 517), (517, o_zret), (518, o_ald 1 519), (519, o_ild 4 521), (521, o_callV M_R_faults 0 2 524), (524, o_ist 15 526), (526, o_ald 1 527), (527, o_ild 4 529), (529, o_callV M_R_mend 0 2 532), (532, o_ald 1 533), (533, o_ild 4 535), (535, o_callV M_R_isSound 0 2 538), (538, o_if_eq 550 541), (541, o_ild 15 543), (543, o_if_ne 550 546), (546, o_push (.int (iI (3))) 547), (547, o_goto 551), (550, o_push (.int (iI (0))) 551), (551, o_icmp_ne 568 554), (554, o_ild 15 556), (556, o_if_eq 570 559), (559, o_ald 1 560), (560, o_ild 4 562), (562, o_callV M_R_isSound 0 2 565), (565, o_if_ne 570 568), (568, o_push (.int (iI (0))) 569), (569, o_zret), (570, o_ald 1 571), (571, o_callV M_R_restoreState 0 1 574), (574, o_ild 6 576), (576, o_icmp_ne 611 579), (579, o_ald 1 580), (580, o_call M_Lw_sum 1 583), (583, o_lld 7 585), (585, o_lc_ne 611 589), (589, o_ald 1 590), (590, o_push (.int (iI (6))) 592), (592, o_callV M_R_count 0 2 595), (595, o_if_ne 611 598), (598, o_ald 1 599), (599, o_callV M_R_gap 0 1 602), (602, o_push (.long (lI 0)) 603), (603, o_lc_ne 611 607), (607, o_push (.int (iI (1))) 608), (608, o_goto 612), (611, o_push (.int (iI (0))) 612), (612, o_zret)]
theorem k_Lw_law (L : Nat) (xs : Nat → Int32) : ∀ x ∈ T_Lw_law L xs, SP (gS L xs) M_Lw_law x.1 x.2 := by
  obtain ⟨h0, h3, h4, h7, h8, h9, h10, h13, h16, h17, h20, h21⟩ := e0_Lw_law
  obtain ⟨h24, h27, h28, h31, h32, h33, h36, h37, h38, h39, h40, h43⟩ := e1_Lw_law
  obtain ⟨h44, h45, h46, h47, h48, h49, h52, h53, h55, h56, h57, h58⟩ := e2_Lw_law
  obtain ⟨h59, h62, h63, h64, h65, h68, h69, h72, h73, h74, h76, h77⟩ := e3_Lw_law
  obtain ⟨h78, h80, h83, h86, h87, h88, h91, h93, h94, h95, h98, h99⟩ := e4_Lw_law
  obtain ⟨h100, h103, h106, h107, h108, h111, h114, h115, h116, h119, h122, h123⟩ := e5_Lw_law
  obtain ⟨h124, h125, h126, h127, h130, h131, h134, h135, h136, h139, h140, h143⟩ := e6_Lw_law
  obtain ⟨h144, h145, h148, h149, h152, h153, h154, h157, h159, h162, h163, h164⟩ := e7_Lw_law
  obtain ⟨h165, h167, h168, h170, h173, h174, h175, h177, h179, h180, h183, h184⟩ := e8_Lw_law
  obtain ⟨h186, h187, h189, h190, h191, h192, h194, h197, h199, h200, h201, h203⟩ := e9_Lw_law
  obtain ⟨h204, h206, h207, h208, h209, h210, h213, h215, h216, h218, h219, h221⟩ := e10_Lw_law
  obtain ⟨h222, h223, h224, h226, h229, h230, h232, h233, h235, h236, h237, h238⟩ := e11_Lw_law
  obtain ⟨h240, h243, h246, h249, h250, h252, h255, h258, h259, h260, h263, h266⟩ := e12_Lw_law
  obtain ⟨h267, h269, h270, h272, h275, h277, h278, h280, h281, h282, h283, h286⟩ := e13_Lw_law
  obtain ⟨h287, h288, h291, h293, h294, h296, h298, h301, h304, h305, h307, h310⟩ := e14_Lw_law
  obtain ⟨h313, h314, h316, h317, h320, h321, h323, h326, h327, h328, h331, h334⟩ := e15_Lw_law
  obtain ⟨h337, h338, h340, h342, h343, h346, h347, h348, h350, h353, h356, h359⟩ := e16_Lw_law
  obtain ⟨h360, h363, h364, h367, h370, h371, h372, h373, h376, h378, h379, h382⟩ := e17_Lw_law
  obtain ⟨h384, h385, h387, h388, h390, h391, h392, h395, h398, h401, h402, h403⟩ := e18_Lw_law
  obtain ⟨h404, h406, h409, h411, h412, h414, h415, h416, h418, h421, h422, h423⟩ := e19_Lw_law
  obtain ⟨h426, h428, h429, h431, h433, h435, h438, h440, h441, h443, h445, h447⟩ := e20_Lw_law
  obtain ⟨h450, h452, h453, h455, h458, h460, h461, h464, h465, h467, h469, h472⟩ := e21_Lw_law
  obtain ⟨h474, h477, h478, h480, h483, h486, h487, h489, h492, h494, h495, h496⟩ := e22_Lw_law
  obtain ⟨h497, h500, h501, h503, h505, h507, h510, h512, h513, h516, h517, h518⟩ := e23_Lw_law
  obtain ⟨h519, h521, h524, h526, h527, h529, h532, h533, h535, h538, h541, h543⟩ := e24_Lw_law
  obtain ⟨h546, h547, h550, h551, h554, h556, h559, h560, h562, h565, h568, h569⟩ := e25_Lw_law
  obtain ⟨h570, h571, h574, h576, h579, h580, h583, h585, h586, h589, h590, h592⟩ := e26_Lw_law
  obtain ⟨h595, h598, h599, h602, h603, h604, h607, h608, h611, h612⟩ := e27_Lw_law
  refine acP (SP_of (s_new (M := M_Lw_law) (pc := 0) (T := TX7) (N := 12) (fs := [.null, .int (iI 0), .null, .null, .null, .int (iI 0), .null, .null, .null, .int (iI 0), .int (iI 0), .null]) h0 rfl in_X7 tyX7_ok wd50 wd51 wd21 (fun j hj => match j, hj with | 0, _ => rfl | 1, _ => rfl | 2, _ => rfl | 3, _ => rfl | 4, _ => rfl | 5, _ => rfl | 6, _ => rfl | 7, _ => rfl | 8, _ => rfl | 9, _ => rfl | 10, _ => rfl | 11, _ => rfl | j + 12, h => absurd h (by omega)) (fun _ => rfl))) ?_
  refine acP (SP_of (s_dup (M := M_Lw_law) (pc := 3) h3)) ?_
  refine acP (SP_of (s_callI (M := M_Lw_law) (pc := 4) (mc1 := 92) (ms1 := 7051) (tz_Lw rfl) h4 q_R_init rfl rfl wd52 wd53)) ?_
  refine acP (SP_of (s_astn (M := M_Lw_law) (pc := 7) (k := 1) h7 (by decide))) ?_
  refine acP (SP_of (s_aldn (M := M_Lw_law) (pc := 8) (k := 1) h8)) ?_
  refine acP (SP_of (s_aldn (M := M_Lw_law) (pc := 9) (k := 0) h9)) ?_
  refine acP (s_callG (M := M_Lw_law) (pc := 10) (mc1 := 6) (ms1 := 240) (tz_Lw rfl) h10 q_Lw_setup wd927 wd928) ?_
  refine acP (SP_of (s_callSB (M := M_Lw_law) (pc := 13) (mc1 := 3) (ms1 := 15) (tz_Lw rfl) h13 q_Lw_loaded wd665 wd666)) ?_
  refine acP (SP_of (s_iconst (M := M_Lw_law) (pc := 16) h16 rfl)) ?_
  refine acP (SP_of (s_icmp_lt (M := M_Lw_law) (pc := 17) h17 (by decide))) ?_
  refine acP (SP_of (s_aldn (M := M_Lw_law) (pc := 20) (k := 1) h20)) ?_
  refine acP (SP_of (s_callS (M := M_Lw_law) (pc := 21) (tz_Lw rfl) h21 q_Lw_isBounded wd1130 wd1131)) ?_
  refine acP (SP_of (s_if_eq (M := M_Lw_law) (pc := 24) h24 (by decide))) ?_
  refine acP (SP_of (s_aldn (M := M_Lw_law) (pc := 27) (k := 1) h27)) ?_
  refine acP (SP_of (s_callV (M := M_Lw_law) (pc := 28) (tz_Lw rfl) h28 q_R_gap wd495 wd496 wd497 rfl (T := TX7) (N := 12) rfl)) ?_
  refine acP (SP_of (s_lconst (M := M_Lw_law) (pc := 31) h31 (by decide))) ?_
  refine acP (SP_of (s_lc_eq (M := M_Lw_law) (pc := 32) h32 h33 (by decide))) ?_
  refine acP (SP_of (s_iconst (M := M_Lw_law) (pc := 36) h36 rfl)) ?_
  refine acP (SP_of (s_zret (M := M_Lw_law) (pc := 37) h37 rfl)) ?_
  refine acP (SP_of (s_aldn (M := M_Lw_law) (pc := 38) (k := 1) h38)) ?_
  refine acP (SP_of (s_iconst (M := M_Lw_law) (pc := 39) h39 rfl)) ?_
  refine acP (SP_of (s_callV (M := M_Lw_law) (pc := 40) (tz_Lw rfl) h40 q_R_bound wd426 wd427 wd428 rfl (T := TX7) (N := 12) rfl)) ?_
  refine acP (SP_of (s_l2i (M := M_Lw_law) (pc := 43) h43)) ?_
  refine acP (SP_of (s_istn (M := M_Lw_law) (pc := 44) (k := 2) h44 (by decide))) ?_
  refine acP (SP_of (s_iconst (M := M_Lw_law) (pc := 45) h45 rfl)) ?_
  refine acP (SP_of (s_istn (M := M_Lw_law) (pc := 46) (k := 3) h46 (by decide))) ?_
  refine acP (SP_of (s_ildn (M := M_Lw_law) (pc := 47) (k := 3) h47)) ?_
  refine acP (SP_of (s_iconst (M := M_Lw_law) (pc := 48) h48 rfl)) ?_
  refine acP (SP_of (s_icmp_ge (M := M_Lw_law) (pc := 49) h49 (by decide))) ?_
  refine acP (SP_of (s_aldn (M := M_Lw_law) (pc := 52) (k := 0) h52)) ?_
  refine acP (SP_of (s_bipush (M := M_Lw_law) (pc := 53) h53 (by decide))) ?_
  refine acP (SP_of (s_ildn (M := M_Lw_law) (pc := 55) (k := 3) h55)) ?_
  refine acP (SP_of (s_iadd (M := M_Lw_law) (pc := 56) h56)) ?_
  refine acP (SP_of (s_iconst (M := M_Lw_law) (pc := 57) h57 rfl)) ?_
  refine acP (SP_of (s_ildn (M := M_Lw_law) (pc := 58) (k := 2) h58)) ?_
  refine acP (s_callG (M := M_Lw_law) (pc := 59) (mc1 := 0) (ms1 := 0) (tz_Lw rfl) h59 q_Lw_draw wd657 wd658) ?_
  refine acP (SP_of (s_ildn (M := M_Lw_law) (pc := 62) (k := 3) h62)) ?_
  refine acP (SP_of (s_iconst (M := M_Lw_law) (pc := 63) h63 rfl)) ?_
  refine acP (SP_of (s_irem (M := M_Lw_law) (pc := 64) h64)) ?_
  refine acP (SP_of (s_if_ne (M := M_Lw_law) (pc := 65) h65 (by decide))) ?_
  refine acP (SP_of (s_iconst (M := M_Lw_law) (pc := 68) h68 rfl)) ?_
  refine acP (SP_of (s_goto (M := M_Lw_law) (pc := 69) h69 (by decide))) ?_
  refine acP (SP_of (s_iconst (M := M_Lw_law) (pc := 72) h72 rfl)) ?_
  refine acP (SP_of (s_imul (M := M_Lw_law) (pc := 73) h73)) ?_
  refine acP (SP_of (s_ist (M := M_Lw_law) (pc := 74) h74 (by decide))) ?_
  refine acP (SP_of (s_aldn (M := M_Lw_law) (pc := 76) (k := 1) h76)) ?_
  refine acP (SP_of (s_ildn (M := M_Lw_law) (pc := 77) (k := 3) h77)) ?_
  refine acP (SP_of (s_ild (M := M_Lw_law) (pc := 78) h78)) ?_
  refine acP (SP_of (s_callV (M := M_Lw_law) (pc := 80) (tz_Lw rfl) h80 q_R_set wd553 wd554 wd555 rfl (T := TX7) (N := 12) rfl)) ?_
  refine acP (SP_of (s_if_ne (M := M_Lw_law) (pc := 83) h83 (by decide))) ?_
  refine acP (SP_of (s_aldn (M := M_Lw_law) (pc := 86) (k := 1) h86)) ?_
  refine acP (SP_of (s_ildn (M := M_Lw_law) (pc := 87) (k := 3) h87)) ?_
  refine acP (SP_of (s_callV (M := M_Lw_law) (pc := 88) (tz_Lw rfl) h88 q_R_number wd469 wd470 wd471 rfl (T := TX7) (N := 12) rfl)) ?_
  refine acP (SP_of (s_ild (M := M_Lw_law) (pc := 91) h91)) ?_
  refine acP (SP_of (s_i2l (M := M_Lw_law) (pc := 93) h93)) ?_
  refine acP (SP_of (s_lc_ne (M := M_Lw_law) (pc := 94) h94 h95 (by decide))) ?_
  refine acP (SP_of (s_aldn (M := M_Lw_law) (pc := 98) (k := 1) h98)) ?_
  refine acP (SP_of (s_ildn (M := M_Lw_law) (pc := 99) (k := 3) h99)) ?_
  refine acP (SP_of (s_callV (M := M_Lw_law) (pc := 100) (tz_Lw rfl) h100 q_R_isSound wd474 wd475 wd476 rfl (T := TX7) (N := 12) rfl)) ?_
  refine acP (SP_of (s_if_eq (M := M_Lw_law) (pc := 103) h103 (by decide))) ?_
  refine acP (SP_of (s_aldn (M := M_Lw_law) (pc := 106) (k := 1) h106)) ?_
  refine acP (SP_of (s_ildn (M := M_Lw_law) (pc := 107) (k := 3) h107)) ?_
  refine acP (SP_of (s_callS (M := M_Lw_law) (pc := 108) (tz_Lw rfl) h108 q_Lw_isTold wd1134 wd1135)) ?_
  refine acP (SP_of (s_if_ne (M := M_Lw_law) (pc := 111) h111 (by decide))) ?_
  refine acP (SP_of (s_iconst (M := M_Lw_law) (pc := 114) h114 rfl)) ?_
  refine acP (SP_of (s_zret (M := M_Lw_law) (pc := 115) h115 rfl)) ?_
  refine acP (SP_of (s_iinc (M := M_Lw_law) (pc := 116) h116 rfl (by decide))) ?_
  refine acP (SP_of (s_goto (M := M_Lw_law) (pc := 119) h119 (by decide))) ?_
  refine acP (SP_of (s_aldn (M := M_Lw_law) (pc := 122) (k := 1) h122)) ?_
  refine acP (SP_of (s_iconst (M := M_Lw_law) (pc := 123) h123 rfl)) ?_
  refine acP (SP_of (s_ildn (M := M_Lw_law) (pc := 124) (k := 2) h124)) ?_
  refine acP (SP_of (s_iconst (M := M_Lw_law) (pc := 125) h125 rfl)) ?_
  refine acP (SP_of (s_iadd (M := M_Lw_law) (pc := 126) h126)) ?_
  refine acP (SP_of (s_callV (M := M_Lw_law) (pc := 127) (tz_Lw rfl) h127 q_R_set wd553 wd554 wd555 rfl (T := TX7) (N := 12) rfl)) ?_
  refine acP (SP_of (s_iconst (M := M_Lw_law) (pc := 130) h130 rfl)) ?_
  refine acP (SP_of (s_icmp_ne (M := M_Lw_law) (pc := 131) h131 (by decide))) ?_
  refine acP (SP_of (s_aldn (M := M_Lw_law) (pc := 134) (k := 1) h134)) ?_
  refine acP (SP_of (s_iconst (M := M_Lw_law) (pc := 135) h135 rfl)) ?_
  refine acP (SP_of (s_callV (M := M_Lw_law) (pc := 136) (tz_Lw rfl) h136 q_R_account wd418 wd419 wd420 rfl (T := TX7) (N := 12) rfl)) ?_
  refine acP (SP_of (s_iconst (M := M_Lw_law) (pc := 139) h139 rfl)) ?_
  refine acP (SP_of (s_icmp_ne (M := M_Lw_law) (pc := 140) h140 (by decide))) ?_
  refine acP (SP_of (s_aldn (M := M_Lw_law) (pc := 143) (k := 1) h143)) ?_
  refine acP (SP_of (s_iconst (M := M_Lw_law) (pc := 144) h144 rfl)) ?_
  refine acP (SP_of (s_callV (M := M_Lw_law) (pc := 145) (tz_Lw rfl) h145 q_R_account wd418 wd419 wd420 rfl (T := TX7) (N := 12) rfl)) ?_
  refine acP (SP_of (s_iconst (M := M_Lw_law) (pc := 148) h148 rfl)) ?_
  refine acP (SP_of (s_icmp_ne (M := M_Lw_law) (pc := 149) h149 (by decide))) ?_
  refine acP (SP_of (s_aldn (M := M_Lw_law) (pc := 152) (k := 1) h152)) ?_
  refine acP (SP_of (s_iconst (M := M_Lw_law) (pc := 153) h153 rfl)) ?_
  refine acP (SP_of (s_callV (M := M_Lw_law) (pc := 154) (tz_Lw rfl) h154 q_R_count wd322 wd323 wd324 rfl (T := TX7) (N := 12) rfl)) ?_
  refine acP (SP_of (s_bipush (M := M_Lw_law) (pc := 157) h157 (by decide))) ?_
  refine acP (SP_of (s_icmp_eq (M := M_Lw_law) (pc := 159) h159 (by decide))) ?_
  refine acP (SP_of (s_iconst (M := M_Lw_law) (pc := 162) h162 rfl)) ?_
  refine acP (SP_of (s_zret (M := M_Lw_law) (pc := 163) h163 rfl)) ?_
  refine acP (SP_of (s_aldn (M := M_Lw_law) (pc := 164) (k := 0) h164)) ?_
  refine acP (SP_of (s_bipush (M := M_Lw_law) (pc := 165) h165 (by decide))) ?_
  refine acP (SP_of (s_iconst (M := M_Lw_law) (pc := 167) h167 rfl)) ?_
  refine acP (SP_of (s_bipush (M := M_Lw_law) (pc := 168) h168 (by decide))) ?_
  refine acP (s_callG (M := M_Lw_law) (pc := 170) (mc1 := 0) (ms1 := 0) (tz_Lw rfl) h170 q_Lw_draw wd657 wd658) ?_
  refine acP (SP_of (s_istn (M := M_Lw_law) (pc := 173) (k := 3) h173 (by decide))) ?_
  refine acP (SP_of (s_iconst (M := M_Lw_law) (pc := 174) h174 rfl)) ?_
  refine acP (SP_of (s_ist (M := M_Lw_law) (pc := 175) h175 (by decide))) ?_
  refine acP (SP_of (s_ild (M := M_Lw_law) (pc := 177) h177)) ?_
  refine acP (SP_of (s_ildn (M := M_Lw_law) (pc := 179) (k := 3) h179)) ?_
  refine acP (SP_of (s_icmp_ge (M := M_Lw_law) (pc := 180) h180 (by decide))) ?_
  refine acP (SP_of (s_aldn (M := M_Lw_law) (pc := 183) (k := 0) h183)) ?_
  refine acP (SP_of (s_bipush (M := M_Lw_law) (pc := 184) h184 (by decide))) ?_
  refine acP (SP_of (s_iconst (M := M_Lw_law) (pc := 186) h186 rfl)) ?_
  refine acP (SP_of (s_ild (M := M_Lw_law) (pc := 187) h187)) ?_
  refine acP (SP_of (s_imul (M := M_Lw_law) (pc := 189) h189)) ?_
  refine acP (SP_of (s_iadd (M := M_Lw_law) (pc := 190) h190)) ?_
  refine acP (SP_of (s_iconst (M := M_Lw_law) (pc := 191) h191 rfl)) ?_
  refine acP (SP_of (s_bipush (M := M_Lw_law) (pc := 192) h192 (by decide))) ?_
  refine acP (s_callG (M := M_Lw_law) (pc := 194) (mc1 := 0) (ms1 := 0) (tz_Lw rfl) h194 q_Lw_draw wd657 wd658) ?_
  refine acP (SP_of (s_ist (M := M_Lw_law) (pc := 197) h197 (by decide))) ?_
  refine acP (SP_of (s_aldn (M := M_Lw_law) (pc := 199) (k := 1) h199)) ?_
  refine acP (SP_of (s_aldn (M := M_Lw_law) (pc := 200) (k := 0) h200)) ?_
  refine acP (SP_of (s_bipush (M := M_Lw_law) (pc := 201) h201 (by decide))) ?_
  refine acP (SP_of (s_iconst (M := M_Lw_law) (pc := 203) h203 rfl)) ?_
  refine acP (SP_of (s_ild (M := M_Lw_law) (pc := 204) h204)) ?_
  refine acP (SP_of (s_imul (M := M_Lw_law) (pc := 206) h206)) ?_
  refine acP (SP_of (s_iadd (M := M_Lw_law) (pc := 207) h207)) ?_
  refine acP (SP_of (s_iconst (M := M_Lw_law) (pc := 208) h208 rfl)) ?_
  refine acP (SP_of (s_iconst (M := M_Lw_law) (pc := 209) h209 rfl)) ?_
  refine acP (s_callG (M := M_Lw_law) (pc := 210) (mc1 := 0) (ms1 := 0) (tz_Lw rfl) h210 q_Lw_draw wd657 wd658) ?_
  refine acP (SP_of (s_ild (M := M_Lw_law) (pc := 213) h213)) ?_
  refine acP (SP_of (s_aldn (M := M_Lw_law) (pc := 215) (k := 0) h215)) ?_
  refine acP (SP_of (s_bipush (M := M_Lw_law) (pc := 216) h216 (by decide))) ?_
  refine acP (SP_of (s_iconst (M := M_Lw_law) (pc := 218) h218 rfl)) ?_
  refine acP (SP_of (s_ild (M := M_Lw_law) (pc := 219) h219)) ?_
  refine acP (SP_of (s_imul (M := M_Lw_law) (pc := 221) h221)) ?_
  refine acP (SP_of (s_iadd (M := M_Lw_law) (pc := 222) h222)) ?_
  refine acP (SP_of (s_iconst (M := M_Lw_law) (pc := 223) h223 rfl)) ?_
  refine acP (SP_of (s_bipush (M := M_Lw_law) (pc := 224) h224 (by decide))) ?_
  refine acP (s_callG (M := M_Lw_law) (pc := 226) (mc1 := 0) (ms1 := 0) (tz_Lw rfl) h226 q_Lw_draw wd657 wd658) ?_
  refine acP (SP_of (s_aldn (M := M_Lw_law) (pc := 229) (k := 0) h229)) ?_
  refine acP (SP_of (s_bipush (M := M_Lw_law) (pc := 230) h230 (by decide))) ?_
  refine acP (SP_of (s_iconst (M := M_Lw_law) (pc := 232) h232 rfl)) ?_
  refine acP (SP_of (s_ild (M := M_Lw_law) (pc := 233) h233)) ?_
  refine acP (SP_of (s_imul (M := M_Lw_law) (pc := 235) h235)) ?_
  refine acP (SP_of (s_iadd (M := M_Lw_law) (pc := 236) h236)) ?_
  refine acP (SP_of (s_iconst (M := M_Lw_law) (pc := 237) h237 rfl)) ?_
  refine acP (SP_of (s_bipush (M := M_Lw_law) (pc := 238) h238 (by decide))) ?_
  refine acP (s_callG (M := M_Lw_law) (pc := 240) (mc1 := 0) (ms1 := 0) (tz_Lw rfl) h240 q_Lw_draw wd657 wd658) ?_
  refine acP (SP_of (s_callS (M := M_Lw_law) (pc := 243) (tz_Lw rfl) h243 q_Lw_isOperated wd1161 wd1162)) ?_
  refine acP (SP_of (s_if_eq (M := M_Lw_law) (pc := 246) h246 (by decide))) ?_
  refine acP (SP_of (s_aldn (M := M_Lw_law) (pc := 249) (k := 1) h249)) ?_
  refine acP (SP_of (s_ild (M := M_Lw_law) (pc := 250) h250)) ?_
  refine acP (SP_of (s_callS (M := M_Lw_law) (pc := 252) (tz_Lw rfl) h252 q_Lw_isTold wd1134 wd1135)) ?_
  refine acP (SP_of (s_if_ne (M := M_Lw_law) (pc := 255) h255 (by decide))) ?_
  refine acP (SP_of (s_iconst (M := M_Lw_law) (pc := 258) h258 rfl)) ?_
  refine acP (SP_of (s_zret (M := M_Lw_law) (pc := 259) h259 rfl)) ?_
  refine acP (SP_of (s_iinc (M := M_Lw_law) (pc := 260) h260 rfl (by decide))) ?_
  refine acP (SP_of (s_goto (M := M_Lw_law) (pc := 263) h263 (by decide))) ?_
  refine acP (SP_of (s_aldn (M := M_Lw_law) (pc := 266) (k := 0) h266)) ?_
  refine acP (SP_of (s_bipush (M := M_Lw_law) (pc := 267) h267 (by decide))) ?_
  refine acP (SP_of (s_iconst (M := M_Lw_law) (pc := 269) h269 rfl)) ?_
  refine acP (SP_of (s_bipush (M := M_Lw_law) (pc := 270) h270 (by decide))) ?_
  refine acP (s_callG (M := M_Lw_law) (pc := 272) (mc1 := 0) (ms1 := 0) (tz_Lw rfl) h272 q_Lw_draw wd657 wd658) ?_
  refine acP (SP_of (s_ist (M := M_Lw_law) (pc := 275) h275 (by decide))) ?_
  refine acP (SP_of (s_aldn (M := M_Lw_law) (pc := 277) (k := 0) h277)) ?_
  refine acP (SP_of (s_bipush (M := M_Lw_law) (pc := 278) h278 (by decide))) ?_
  refine acP (SP_of (s_iconst (M := M_Lw_law) (pc := 280) h280 rfl)) ?_
  refine acP (SP_of (s_aldn (M := M_Lw_law) (pc := 281) (k := 1) h281)) ?_
  refine acP (SP_of (s_iconst (M := M_Lw_law) (pc := 282) h282 rfl)) ?_
  refine acP (SP_of (s_callV (M := M_Lw_law) (pc := 283) (tz_Lw rfl) h283 q_R_count wd322 wd323 wd324 rfl (T := TX7) (N := 12) rfl)) ?_
  refine acP (SP_of (s_iconst (M := M_Lw_law) (pc := 286) h286 rfl)) ?_
  refine acP (SP_of (s_isub (M := M_Lw_law) (pc := 287) h287)) ?_
  refine acP (s_callG (M := M_Lw_law) (pc := 288) (mc1 := 0) (ms1 := 0) (tz_Lw rfl) h288 q_Lw_draw wd657 wd658) ?_
  refine acP (SP_of (s_ist (M := M_Lw_law) (pc := 291) h291 (by decide))) ?_
  refine acP (SP_of (s_aldn (M := M_Lw_law) (pc := 293) (k := 1) h293)) ?_
  refine acP (SP_of (s_ild (M := M_Lw_law) (pc := 294) h294)) ?_
  refine acP (SP_of (s_ild (M := M_Lw_law) (pc := 296) h296)) ?_
  refine acP (SP_of (s_callS (M := M_Lw_law) (pc := 298) (tz_Lw rfl) h298 q_Lw_isScaled wd1225 wd1226)) ?_
  refine acP (SP_of (s_if_eq (M := M_Lw_law) (pc := 301) h301 (by decide))) ?_
  refine acP (SP_of (s_aldn (M := M_Lw_law) (pc := 304) (k := 1) h304)) ?_
  refine acP (SP_of (s_ild (M := M_Lw_law) (pc := 305) h305)) ?_
  refine acP (SP_of (s_callS (M := M_Lw_law) (pc := 307) (tz_Lw rfl) h307 q_Lw_isTold wd1134 wd1135)) ?_
  refine acP (SP_of (s_if_eq (M := M_Lw_law) (pc := 310) h310 (by decide))) ?_
  refine acP (SP_of (s_aldn (M := M_Lw_law) (pc := 313) (k := 1) h313)) ?_
  refine acP (SP_of (s_ild (M := M_Lw_law) (pc := 314) h314)) ?_
  refine acP (SP_of (s_iconst (M := M_Lw_law) (pc := 316) h316 rfl)) ?_
  refine acP (SP_of (s_callV (M := M_Lw_law) (pc := 317) (tz_Lw rfl) h317 q_R_compare wd479 wd480 wd481 rfl (T := TX7) (N := 12) rfl)) ?_
  refine acP (SP_of (s_aldn (M := M_Lw_law) (pc := 320) (k := 1) h320)) ?_
  refine acP (SP_of (s_ild (M := M_Lw_law) (pc := 321) h321)) ?_
  refine acP (SP_of (s_callV (M := M_Lw_law) (pc := 323) (tz_Lw rfl) h323 q_R_number wd469 wd470 wd471 rfl (T := TX7) (N := 12) rfl)) ?_
  refine acP (SP_of (s_aldn (M := M_Lw_law) (pc := 326) (k := 1) h326)) ?_
  refine acP (SP_of (s_iconst (M := M_Lw_law) (pc := 327) h327 rfl)) ?_
  refine acP (SP_of (s_callV (M := M_Lw_law) (pc := 328) (tz_Lw rfl) h328 q_R_number wd469 wd470 wd471 rfl (T := TX7) (N := 12) rfl)) ?_
  refine acP (SP_of (s_callS (M := M_Lw_law) (pc := 331) (tz_Lw rfl) h331 q_jLong_compare wd1290 wd352)) ?_
  refine acP (SP_of (s_icmp_ne (M := M_Lw_law) (pc := 334) h334 (by decide))) ?_
  refine acP (SP_of (s_aldn (M := M_Lw_law) (pc := 337) (k := 1) h337)) ?_
  refine acP (SP_of (s_ild (M := M_Lw_law) (pc := 338) h338)) ?_
  refine acP (SP_of (s_bipush (M := M_Lw_law) (pc := 340) h340 (by decide))) ?_
  refine acP (SP_of (s_iconst (M := M_Lw_law) (pc := 342) h342 rfl)) ?_
  refine acP (SP_of (s_callV (M := M_Lw_law) (pc := 343) (tz_Lw rfl) h343 q_R_extend wd487 wd488 wd489 rfl (T := TX7) (N := 12) rfl)) ?_
  refine acP (SP_of (s_i2l (M := M_Lw_law) (pc := 346) h346)) ?_
  refine acP (SP_of (s_aldn (M := M_Lw_law) (pc := 347) (k := 1) h347)) ?_
  refine acP (SP_of (s_ild (M := M_Lw_law) (pc := 348) h348)) ?_
  refine acP (SP_of (s_callV (M := M_Lw_law) (pc := 350) (tz_Lw rfl) h350 q_R_number wd469 wd470 wd471 rfl (T := TX7) (N := 12) rfl)) ?_
  refine acP (SP_of (s_ldc2 (M := M_Lw_law) (pc := 353) h353 wd1291)) ?_
  refine acP (SP_of (s_callS (M := M_Lw_law) (pc := 356) (tz_Lw rfl) h356 q_jMath_floorMod wd1224 wd279)) ?_
  refine acP (SP_of (s_lc_ne (M := M_Lw_law) (pc := 359) h359 h360 (by decide))) ?_
  refine acP (SP_of (s_aldn (M := M_Lw_law) (pc := 363) (k := 1) h363)) ?_
  refine acP (SP_of (s_callS (M := M_Lw_law) (pc := 364) (tz_Lw rfl) h364 q_Lw_isGrown wd1240 wd1241)) ?_
  refine acP (SP_of (s_if_ne (M := M_Lw_law) (pc := 367) h367 (by decide))) ?_
  refine acP (SP_of (s_iconst (M := M_Lw_law) (pc := 370) h370 rfl)) ?_
  refine acP (SP_of (s_zret (M := M_Lw_law) (pc := 371) h371 rfl)) ?_
  refine acP (SP_of (s_aldn (M := M_Lw_law) (pc := 372) (k := 1) h372)) ?_
  refine acP (SP_of (s_callV (M := M_Lw_law) (pc := 373) (tz_Lw rfl) h373 q_R_saveState wd629 wd630 wd631 rfl (T := TX7) (N := 12) rfl)) ?_
  refine acP (SP_of (s_ist (M := M_Lw_law) (pc := 376) h376 (by decide))) ?_
  refine acP (SP_of (s_aldn (M := M_Lw_law) (pc := 378) (k := 1) h378)) ?_
  refine acP (SP_of (s_callS (M := M_Lw_law) (pc := 379) (tz_Lw rfl) h379 q_Lw_sum wd1236 wd1237)) ?_
  refine acP (SP_of (s_lst (M := M_Lw_law) (pc := 382) h382 (by decide))) ?_
  refine acP (SP_of (s_aldn (M := M_Lw_law) (pc := 384) (k := 1) h384)) ?_
  refine acP (SP_of (s_ild (M := M_Lw_law) (pc := 385) h385)) ?_
  refine acP (SP_of (s_aldn (M := M_Lw_law) (pc := 387) (k := 0) h387)) ?_
  refine acP (SP_of (s_bipush (M := M_Lw_law) (pc := 388) h388 (by decide))) ?_
  refine acP (SP_of (s_iconst (M := M_Lw_law) (pc := 390) h390 rfl)) ?_
  refine acP (SP_of (s_ildn (M := M_Lw_law) (pc := 391) (k := 2) h391)) ?_
  refine acP (s_callG (M := M_Lw_law) (pc := 392) (mc1 := 0) (ms1 := 0) (tz_Lw rfl) h392 q_Lw_draw wd657 wd658) ?_
  refine acP (SP_of (s_callV (M := M_Lw_law) (pc := 395) (tz_Lw rfl) h395 q_R_set wd553 wd554 wd555 rfl (T := TX7) (N := 12) rfl)) ?_
  refine acP (SP_of (s_if_eq (M := M_Lw_law) (pc := 398) h398 (by decide))) ?_
  refine acP (SP_of (s_iconst (M := M_Lw_law) (pc := 401) h401 rfl)) ?_
  refine acP (SP_of (s_zret (M := M_Lw_law) (pc := 402) h402 rfl)) ?_
  refine acP (SP_of (s_aldn (M := M_Lw_law) (pc := 403) (k := 1) h403)) ?_
  refine acP (SP_of (s_ild (M := M_Lw_law) (pc := 404) h404)) ?_
  refine acP (SP_of (s_callV (M := M_Lw_law) (pc := 406) (tz_Lw rfl) h406 q_R_number wd469 wd470 wd471 rfl (T := TX7) (N := 12) rfl)) ?_
  refine acP (SP_of (s_lst (M := M_Lw_law) (pc := 409) h409 (by decide))) ?_
  refine acP (SP_of (s_aldn (M := M_Lw_law) (pc := 411) (k := 0) h411)) ?_
  refine acP (SP_of (s_bipush (M := M_Lw_law) (pc := 412) h412 (by decide))) ?_
  refine acP (SP_of (s_iconst (M := M_Lw_law) (pc := 414) h414 rfl)) ?_
  refine acP (SP_of (s_aldn (M := M_Lw_law) (pc := 415) (k := 1) h415)) ?_
  refine acP (SP_of (s_ild (M := M_Lw_law) (pc := 416) h416)) ?_
  refine acP (SP_of (s_callV (M := M_Lw_law) (pc := 418) (tz_Lw rfl) h418 q_R_modulus wd431 wd432 wd433 rfl (T := TX7) (N := 12) rfl)) ?_
  refine acP (SP_of (s_iconst (M := M_Lw_law) (pc := 421) h421 rfl)) ?_
  refine acP (SP_of (s_isub (M := M_Lw_law) (pc := 422) h422)) ?_
  refine acP (s_callG (M := M_Lw_law) (pc := 423) (mc1 := 0) (ms1 := 0) (tz_Lw rfl) h423 q_Lw_draw wd657 wd658) ?_
  refine acP (SP_of (s_ist (M := M_Lw_law) (pc := 426) h426 (by decide))) ?_
  refine acP (SP_of (s_aldn (M := M_Lw_law) (pc := 428) (k := 1) h428)) ?_
  refine acP (SP_of (s_ild (M := M_Lw_law) (pc := 429) h429)) ?_
  refine acP (SP_of (s_ild (M := M_Lw_law) (pc := 431) h431)) ?_
  refine acP (SP_of (s_ild (M := M_Lw_law) (pc := 433) h433)) ?_
  refine acP (SP_of (s_callV (M := M_Lw_law) (pc := 435) (tz_Lw rfl) h435 q_R_numberWith wd541 wd542 wd543 rfl (T := TX7) (N := 12) rfl)) ?_
  refine acP (SP_of (s_lst (M := M_Lw_law) (pc := 438) h438 (by decide))) ?_
  refine acP (SP_of (s_aldn (M := M_Lw_law) (pc := 440) (k := 1) h440)) ?_
  refine acP (SP_of (s_ild (M := M_Lw_law) (pc := 441) h441)) ?_
  refine acP (SP_of (s_ild (M := M_Lw_law) (pc := 443) h443)) ?_
  refine acP (SP_of (s_ild (M := M_Lw_law) (pc := 445) h445)) ?_
  refine acP (SP_of (s_callV (M := M_Lw_law) (pc := 447) (tz_Lw rfl) h447 q_R_hurt wd614 wd615 wd616 rfl (T := TX7) (N := 12) rfl)) ?_
  refine acP (SP_of (s_ist (M := M_Lw_law) (pc := 450) h450 (by decide))) ?_
  refine acP (SP_of (s_aldn (M := M_Lw_law) (pc := 452) (k := 1) h452)) ?_
  refine acP (SP_of (s_ild (M := M_Lw_law) (pc := 453) h453)) ?_
  refine acP (SP_of (s_callV (M := M_Lw_law) (pc := 455) (tz_Lw rfl) h455 q_R_number wd469 wd470 wd471 rfl (T := TX7) (N := 12) rfl)) ?_
  refine acP (SP_of (s_lld (M := M_Lw_law) (pc := 458) h458)) ?_
  refine acP (SP_of (s_lc_ne (M := M_Lw_law) (pc := 460) h460 h461 (by decide))) ?_
  refine acP (SP_of (s_aldn (M := M_Lw_law) (pc := 464) (k := 1) h464)) ?_
  refine acP (SP_of (s_ild (M := M_Lw_law) (pc := 465) h465)) ?_
  refine acP (SP_of (s_ild (M := M_Lw_law) (pc := 467) h467)) ?_
  refine acP (SP_of (s_callV (M := M_Lw_law) (pc := 469) (tz_Lw rfl) h469 q_R_rest wd455 wd456 wd457 rfl (T := TX7) (N := 12) rfl)) ?_
  refine acP (SP_of (s_ild (M := M_Lw_law) (pc := 472) h472)) ?_
  refine acP (SP_of (s_icmp_ne (M := M_Lw_law) (pc := 474) h474 (by decide))) ?_
  refine acP (SP_of (s_aldn (M := M_Lw_law) (pc := 477) (k := 1) h477)) ?_
  refine acP (SP_of (s_ild (M := M_Lw_law) (pc := 478) h478)) ?_
  refine acP (SP_of (s_callV (M := M_Lw_law) (pc := 480) (tz_Lw rfl) h480 q_R_isSound wd474 wd475 wd476 rfl (T := TX7) (N := 12) rfl)) ?_
  refine acP (SP_of (s_if_ne (M := M_Lw_law) (pc := 483) h483 (by decide))) ?_
  refine acP (SP_of (s_aldn (M := M_Lw_law) (pc := 486) (k := 1) h486)) ?_
  refine acP (SP_of (s_ild (M := M_Lw_law) (pc := 487) h487)) ?_
  refine acP (SP_of (s_callV (M := M_Lw_law) (pc := 489) (tz_Lw rfl) h489 q_R_faults wd525 wd526 wd527 rfl (T := TX7) (N := 12) rfl)) ?_
  refine acP (SP_of (s_ild (M := M_Lw_law) (pc := 492) h492)) ?_
  refine acP (SP_of (s_ishr (M := M_Lw_law) (pc := 494) h494)) ?_
  refine acP (SP_of (s_iconst (M := M_Lw_law) (pc := 495) h495 rfl)) ?_
  refine acP (SP_of (s_iand (M := M_Lw_law) (pc := 496) h496)) ?_
  refine acP (SP_of (s_if_eq (M := M_Lw_law) (pc := 497) h497 (by decide))) ?_
  refine acP (SP_of (s_aldn (M := M_Lw_law) (pc := 500) (k := 1) h500)) ?_
  refine acP (SP_of (s_ild (M := M_Lw_law) (pc := 501) h501)) ?_
  refine acP (SP_of (s_ild (M := M_Lw_law) (pc := 503) h503)) ?_
  refine acP (SP_of (s_ild (M := M_Lw_law) (pc := 505) h505)) ?_
  refine acP (SP_of (s_callV (M := M_Lw_law) (pc := 507) (tz_Lw rfl) h507 q_R_numberWith wd541 wd542 wd543 rfl (T := TX7) (N := 12) rfl)) ?_
  refine acP (SP_of (s_lld (M := M_Lw_law) (pc := 510) h510)) ?_
  refine acP (SP_of (s_lc_eq (M := M_Lw_law) (pc := 512) h512 h513 (by decide))) ?_
  refine acP (SP_of (s_iconst (M := M_Lw_law) (pc := 516) h516 rfl)) ?_
  refine acP (SP_of (s_zret (M := M_Lw_law) (pc := 517) h517 rfl)) ?_
  refine acP (SP_of (s_aldn (M := M_Lw_law) (pc := 518) (k := 1) h518)) ?_
  refine acP (SP_of (s_ild (M := M_Lw_law) (pc := 519) h519)) ?_
  refine acP (SP_of (s_callV (M := M_Lw_law) (pc := 521) (tz_Lw rfl) h521 q_R_faults wd525 wd526 wd527 rfl (T := TX7) (N := 12) rfl)) ?_
  refine acP (SP_of (s_ist (M := M_Lw_law) (pc := 524) h524 (by decide))) ?_
  refine acP (SP_of (s_aldn (M := M_Lw_law) (pc := 526) (k := 1) h526)) ?_
  refine acP (SP_of (s_ild (M := M_Lw_law) (pc := 527) h527)) ?_
  refine acP (SP_of (s_callV (M := M_Lw_law) (pc := 529) (tz_Lw rfl) h529 q_R_mend wd620 wd621 wd622 rfl (T := TX7) (N := 12) rfl)) ?_
  refine acP (SP_of (s_aldn (M := M_Lw_law) (pc := 532) (k := 1) h532)) ?_
  refine acP (SP_of (s_ild (M := M_Lw_law) (pc := 533) h533)) ?_
  refine acP (SP_of (s_callV (M := M_Lw_law) (pc := 535) (tz_Lw rfl) h535 q_R_isSound wd474 wd475 wd476 rfl (T := TX7) (N := 12) rfl)) ?_
  refine acP (SP_of (s_if_eq (M := M_Lw_law) (pc := 538) h538 (by decide))) ?_
  refine acP (SP_of (s_ild (M := M_Lw_law) (pc := 541) h541)) ?_
  refine acP (SP_of (s_if_ne (M := M_Lw_law) (pc := 543) h543 (by decide))) ?_
  refine acP (SP_of (s_iconst (M := M_Lw_law) (pc := 546) h546 rfl)) ?_
  refine acP (SP_of (s_goto (M := M_Lw_law) (pc := 547) h547 (by decide))) ?_
  refine acP (SP_of (s_iconst (M := M_Lw_law) (pc := 550) h550 rfl)) ?_
  refine acP (SP_of (s_icmp_ne (M := M_Lw_law) (pc := 551) h551 (by decide))) ?_
  refine acP (SP_of (s_ild (M := M_Lw_law) (pc := 554) h554)) ?_
  refine acP (SP_of (s_if_eq (M := M_Lw_law) (pc := 556) h556 (by decide))) ?_
  refine acP (SP_of (s_aldn (M := M_Lw_law) (pc := 559) (k := 1) h559)) ?_
  refine acP (SP_of (s_ild (M := M_Lw_law) (pc := 560) h560)) ?_
  refine acP (SP_of (s_callV (M := M_Lw_law) (pc := 562) (tz_Lw rfl) h562 q_R_isSound wd474 wd475 wd476 rfl (T := TX7) (N := 12) rfl)) ?_
  refine acP (SP_of (s_if_ne (M := M_Lw_law) (pc := 565) h565 (by decide))) ?_
  refine acP (SP_of (s_iconst (M := M_Lw_law) (pc := 568) h568 rfl)) ?_
  refine acP (SP_of (s_zret (M := M_Lw_law) (pc := 569) h569 rfl)) ?_
  refine acP (SP_of (s_aldn (M := M_Lw_law) (pc := 570) (k := 1) h570)) ?_
  refine acP (SP_of (s_callV (M := M_Lw_law) (pc := 571) (tz_Lw rfl) h571 q_R_restoreState wd634 wd635 wd636 rfl (T := TX7) (N := 12) rfl)) ?_
  refine acP (SP_of (s_ild (M := M_Lw_law) (pc := 574) h574)) ?_
  refine acP (SP_of (s_icmp_ne (M := M_Lw_law) (pc := 576) h576 (by decide))) ?_
  refine acP (SP_of (s_aldn (M := M_Lw_law) (pc := 579) (k := 1) h579)) ?_
  refine acP (SP_of (s_callS (M := M_Lw_law) (pc := 580) (tz_Lw rfl) h580 q_Lw_sum wd1236 wd1237)) ?_
  refine acP (SP_of (s_lld (M := M_Lw_law) (pc := 583) h583)) ?_
  refine acP (SP_of (s_lc_ne (M := M_Lw_law) (pc := 585) h585 h586 (by decide))) ?_
  refine acP (SP_of (s_aldn (M := M_Lw_law) (pc := 589) (k := 1) h589)) ?_
  refine acP (SP_of (s_bipush (M := M_Lw_law) (pc := 590) h590 (by decide))) ?_
  refine acP (SP_of (s_callV (M := M_Lw_law) (pc := 592) (tz_Lw rfl) h592 q_R_count wd322 wd323 wd324 rfl (T := TX7) (N := 12) rfl)) ?_
  refine acP (SP_of (s_if_ne (M := M_Lw_law) (pc := 595) h595 (by decide))) ?_
  refine acP (SP_of (s_aldn (M := M_Lw_law) (pc := 598) (k := 1) h598)) ?_
  refine acP (SP_of (s_callV (M := M_Lw_law) (pc := 599) (tz_Lw rfl) h599 q_R_gap wd495 wd496 wd497 rfl (T := TX7) (N := 12) rfl)) ?_
  refine acP (SP_of (s_lconst (M := M_Lw_law) (pc := 602) h602 (by decide))) ?_
  refine acP (SP_of (s_lc_ne (M := M_Lw_law) (pc := 603) h603 h604 (by decide))) ?_
  refine acP (SP_of (s_iconst (M := M_Lw_law) (pc := 607) h607 rfl)) ?_
  refine acP (SP_of (s_goto (M := M_Lw_law) (pc := 608) h608 (by decide))) ?_
  refine acP (SP_of (s_iconst (M := M_Lw_law) (pc := 611) h611 rfl)) ?_
  refine acP (SP_of (s_zret (M := M_Lw_law) (pc := 612) h612 rfl)) ?_
  exact acP_nil
