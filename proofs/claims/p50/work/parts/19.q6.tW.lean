theorem e0_Lw_loaded : decode method_5_code 0 = .ok (.aload_n 0, 1) ∧ decode method_5_code 1 = .ok (.aload_n 1, 1) ∧ decode method_5_code 2 = .ok (.invokestatic 35, 3) ∧ decode method_5_code 5 = .ok (.aload_n 0, 1) ∧ decode method_5_code 6 = .ok (.invokevirtual 39, 3) ∧ decode method_5_code 9 = .ok (.ireturn, 1) := by decide +kernel
def T_Lw_loaded : TT := [(0, o_ald 0 1), (1, o_ald 1 2), (2, o_callB M_Lw_feeds 2 3 15 5), (5, o_ald 0 6), (6, o_callV M_R_loadMill 0 1 9), (9, o_iret)]
theorem k_Lw_loaded : ∀ x ∈ T_Lw_loaded, SO M_Lw_loaded x.1 x.2 := by
  obtain ⟨h0, h1, h2, h5, h6, h9⟩ := e0_Lw_loaded
  refine ac (s_aldn (M := M_Lw_loaded) (pc := 0) (k := 0) h0) ?_
  refine ac (s_aldn (M := M_Lw_loaded) (pc := 1) (k := 1) h1) ?_
  refine ac (s_callSB (M := M_Lw_loaded) (pc := 2) (mc1 := 3) (ms1 := 15) (tz_Lw rfl) h2 q_Lw_feeds wd668 wd669) ?_
  refine ac (s_aldn (M := M_Lw_loaded) (pc := 5) (k := 0) h5) ?_
  refine ac (s_callV (M := M_Lw_loaded) (pc := 6) (tz_Lw rfl) h6 q_R_loadMill wd730 wd731 wd732 rfl (T := TX7) (N := 12) rfl) ?_
  refine ac (s_iret (M := M_Lw_loaded) (pc := 9) h9 rfl) ?_
  exact ac_nil
theorem e0_Lw_feeds : decode method_4_code 0 = .ok (.iconst 0, 1) ∧ decode method_4_code 1 = .ok (.istore_n 2, 1) ∧ decode method_4_code 2 = .ok (.iload_n 2, 1) ∧ decode method_4_code 3 = .ok (.aload_n 1, 1) ∧ decode method_4_code 4 = .ok (.invokevirtual 15, 3) ∧ decode method_4_code 7 = .ok (.if_icmp .ge 93, 3) ∧ decode method_4_code 10 = .ok (.iconst 5, 1) ∧ decode method_4_code 11 = .ok (.newarray .int, 2) ∧ decode method_4_code 13 = .ok (.astore_n 3, 1) ∧ decode method_4_code 14 = .ok (.iconst 0, 1) ∧ decode method_4_code 15 = .ok (.istore 4, 2) ∧ decode method_4_code 17 = .ok (.iload 4, 2) := by decide +kernel
theorem e1_Lw_feeds : decode method_4_code 19 = .ok (.bipush 20, 2) ∧ decode method_4_code 21 = .ok (.if_icmp .ge 53, 3) ∧ decode method_4_code 24 = .ok (.aload_n 3, 1) ∧ decode method_4_code 25 = .ok (.iload 4, 2) ∧ decode method_4_code 27 = .ok (.iconst 4, 1) ∧ decode method_4_code 28 = .ok (.idiv, 1) ∧ decode method_4_code 29 = .ok (.dup2, 1) ∧ decode method_4_code 30 = .ok (.iaload, 1) ∧ decode method_4_code 31 = .ok (.iload_n 2, 1) ∧ decode method_4_code 32 = .ok (.iload 4, 2) ∧ decode method_4_code 34 = .ok (.iadd, 1) ∧ decode method_4_code 35 = .ok (.aload_n 1, 1) := by decide +kernel
theorem e2_Lw_feeds : decode method_4_code 36 = .ok (.invokevirtual 15, 3) ∧ decode method_4_code 39 = .ok (.if_icmp .ge 14, 3) ∧ decode method_4_code 42 = .ok (.aload_n 1, 1) ∧ decode method_4_code 43 = .ok (.iload_n 2, 1) ∧ decode method_4_code 44 = .ok (.iload 4, 2) ∧ decode method_4_code 46 = .ok (.iadd, 1) ∧ decode method_4_code 47 = .ok (.invokevirtual 21, 3) ∧ decode method_4_code 50 = .ok (.goto 5, 3) ∧ decode method_4_code 53 = .ok (.bipush 32, 2) ∧ decode method_4_code 55 = .ok (.bipush 24, 2) ∧ decode method_4_code 57 = .ok (.bipush 8, 2) ∧ decode method_4_code 59 = .ok (.iload 4, 2) := by decide +kernel
theorem e3_Lw_feeds : decode method_4_code 61 = .ok (.iconst 4, 1) ∧ decode method_4_code 62 = .ok (.irem, 1) ∧ decode method_4_code 63 = .ok (.imul, 1) ∧ decode method_4_code 64 = .ok (.isub, 1) ∧ decode method_4_code 65 = .ok (.ishl, 1) ∧ decode method_4_code 66 = .ok (.ior, 1) ∧ decode method_4_code 67 = .ok (.iastore, 1) ∧ decode method_4_code 68 = .ok (.iinc 4 1, 3) ∧ decode method_4_code 71 = .ok (.goto (-54), 3) ∧ decode method_4_code 74 = .ok (.aload_n 0, 1) ∧ decode method_4_code 75 = .ok (.aload_n 3, 1) ∧ decode method_4_code 76 = .ok (.iconst 0, 1) := by decide +kernel
theorem e4_Lw_feeds : decode method_4_code 77 = .ok (.iaload, 1) ∧ decode method_4_code 78 = .ok (.aload_n 3, 1) ∧ decode method_4_code 79 = .ok (.iconst 1, 1) ∧ decode method_4_code 80 = .ok (.iaload, 1) ∧ decode method_4_code 81 = .ok (.aload_n 3, 1) ∧ decode method_4_code 82 = .ok (.iconst 2, 1) ∧ decode method_4_code 83 = .ok (.iaload, 1) ∧ decode method_4_code 84 = .ok (.aload_n 3, 1) ∧ decode method_4_code 85 = .ok (.iconst 3, 1) ∧ decode method_4_code 86 = .ok (.iaload, 1) ∧ decode method_4_code 87 = .ok (.aload_n 3, 1) ∧ decode method_4_code 88 = .ok (.iconst 4, 1) := by decide +kernel
theorem e5_Lw_feeds : decode method_4_code 89 = .ok (.iaload, 1) ∧ decode method_4_code 90 = .ok (.invokevirtual 25, 3) ∧ decode method_4_code 93 = .ok (.pop, 1) ∧ decode method_4_code 94 = .ok (.iinc 2 20, 3) ∧ decode method_4_code 97 = .ok (.goto (-95), 3) ∧ decode method_4_code 100 = .ok (.aload_n 0, 1) ∧ decode method_4_code 101 = .ok (.aload_n 1, 1) ∧ decode method_4_code 102 = .ok (.invokevirtual 15, 3) ∧ decode method_4_code 105 = .ok (.invokevirtual 31, 3) ∧ decode method_4_code 108 = .ok (.pop, 1) ∧ decode method_4_code 109 = .ok (.return_, 1) := by decide +kernel
def T_Lw_feeds : TT := [(0, o_push (.int (iI (0))) 1), (1, o_ist 2 2), (2, o_ild 2 3), (3, o_ald 1 4), (4, o_callV M_jStr_length 8 1 7), (7, o_icmp_ge 100 10), (10, o_push (.int (iI (5))) 11), (11, o_newai 1 13), (13, o_ast 3 14), (14, o_push (.int (iI (0))) 15), (15, o_ist 4 17), (17, o_ild 4 19), (19, o_push (.int (iI (20))) 21), (21, o_icmp_ge 74 24), (24, o_ald 3 25), (25, o_ild 4 27), (27, o_push (.int (iI (4))) 28), (28, o_idiv 29), (29, o_dup2 30), (30, o_iald 31), (31, o_ild 2 32), (32, o_ild 4 34), (34, o_iadd 35), (35, o_ald 1 36), (36, o_callV M_jStr_length 8 1 39), (39, o_icmp_ge 53 42), (42, o_ald 1 43), (43, o_ild 2 44), (44, o_ild 4 46), (46, o_iadd 47), (47, o_callV M_jStr_charAt 8 2 50), (50, o_goto 55), (53, o_push (.int (iI (32))) 55), (55, o_push (.int (iI (24))) 57), (57, o_push (.int (iI (8))) 59), (59, o_ild 4 61), (61, o_push (.int (iI (4))) 62), (62, o_irem 63), (63, o_imul 64), (64, o_isub 65), (65, o_ishl 66), (66, o_ior 67), (67, o_iast 68), (68, o_iinc 4 (iI (1)) 71), (71, o_goto 17), (74, o_ald 0 75), (75, o_ald 3 76), (76, o_push (.int (iI (0))) 77), (77, o_iald 78), (78, o_ald 3 79), (79, o_push (.int (iI (1))) 80), (80, o_iald 81), (81, o_ald 3 82), (82, o_push (.int (iI (2))) 83), (83, o_iald 84), (84, o_ald 3 85), (85, o_push (.int (iI (3))) 86), (86, o_iald 87), (87, o_ald 3 88), (88, o_push (.int (iI (4))) 89), (89, o_iald 90), (90, o_callV M_R_appendInput 0 6 93), (93, o_pop 94), (94, o_iinc 2 (iI (20)) 97), (97, o_goto 2), (100, o_ald 0 101), (101, o_ald 1 102), (102, o_callV M_jStr_length 8 1 105), (105, o_callV M_R_truncateInput 0 2 108), (108, o_pop 109), (109, o_vret)]
theorem k_Lw_feeds : ∀ x ∈ T_Lw_feeds, SO M_Lw_feeds x.1 x.2 := by
  obtain ⟨h0, h1, h2, h3, h4, h7, h10, h11, h13, h14, h15, h17⟩ := e0_Lw_feeds
  obtain ⟨h19, h21, h24, h25, h27, h28, h29, h30, h31, h32, h34, h35⟩ := e1_Lw_feeds
  obtain ⟨h36, h39, h42, h43, h44, h46, h47, h50, h53, h55, h57, h59⟩ := e2_Lw_feeds
  obtain ⟨h61, h62, h63, h64, h65, h66, h67, h68, h71, h74, h75, h76⟩ := e3_Lw_feeds
  obtain ⟨h77, h78, h79, h80, h81, h82, h83, h84, h85, h86, h87, h88⟩ := e4_Lw_feeds
  obtain ⟨h89, h90, h93, h94, h97, h100, h101, h102, h105, h108, h109⟩ := e5_Lw_feeds
  refine ac (s_iconst (M := M_Lw_feeds) (pc := 0) h0 rfl) ?_
  refine ac (s_istn (M := M_Lw_feeds) (pc := 1) (k := 2) h1 (by decide)) ?_
  refine ac (s_ildn (M := M_Lw_feeds) (pc := 2) (k := 2) h2) ?_
  refine ac (s_aldn (M := M_Lw_feeds) (pc := 3) (k := 1) h3) ?_
  refine ac (s_callV (M := M_Lw_feeds) (pc := 4) (tz_Lw rfl) h4 q_jStr_length wd671 wd672 wd673 rfl (T := TJ0) (N := 4) rfl) ?_
  refine ac (s_icmp_ge (M := M_Lw_feeds) (pc := 7) h7 (by decide)) ?_
  refine ac (s_iconst (M := M_Lw_feeds) (pc := 10) h10 rfl) ?_
  refine ac (s_newai (M := M_Lw_feeds) (pc := 11) (t := 1) h11 rfl (fun _ => rfl) wd97 (by decide) (fun _ _ => rfl)) ?_
  refine ac (s_astn (M := M_Lw_feeds) (pc := 13) (k := 3) h13 (by decide)) ?_
  refine ac (s_iconst (M := M_Lw_feeds) (pc := 14) h14 rfl) ?_
  refine ac (s_ist (M := M_Lw_feeds) (pc := 15) h15 (by decide)) ?_
  refine ac (s_ild (M := M_Lw_feeds) (pc := 17) h17) ?_
  refine ac (s_bipush (M := M_Lw_feeds) (pc := 19) h19 (by decide)) ?_
  refine ac (s_icmp_ge (M := M_Lw_feeds) (pc := 21) h21 (by decide)) ?_
  refine ac (s_aldn (M := M_Lw_feeds) (pc := 24) (k := 3) h24) ?_
  refine ac (s_ild (M := M_Lw_feeds) (pc := 25) h25) ?_
  refine ac (s_iconst (M := M_Lw_feeds) (pc := 27) h27 rfl) ?_
  refine ac (s_idiv (M := M_Lw_feeds) (pc := 28) h28) ?_
  refine ac (s_dup2 (M := M_Lw_feeds) (pc := 29) h29) ?_
  refine ac (s_iald (M := M_Lw_feeds) (pc := 30) h30) ?_
  refine ac (s_ildn (M := M_Lw_feeds) (pc := 31) (k := 2) h31) ?_
  refine ac (s_ild (M := M_Lw_feeds) (pc := 32) h32) ?_
  refine ac (s_iadd (M := M_Lw_feeds) (pc := 34) h34) ?_
  refine ac (s_aldn (M := M_Lw_feeds) (pc := 35) (k := 1) h35) ?_
  refine ac (s_callV (M := M_Lw_feeds) (pc := 36) (tz_Lw rfl) h36 q_jStr_length wd671 wd672 wd673 rfl (T := TJ0) (N := 4) rfl) ?_
  refine ac (s_icmp_ge (M := M_Lw_feeds) (pc := 39) h39 (by decide)) ?_
  refine ac (s_aldn (M := M_Lw_feeds) (pc := 42) (k := 1) h42) ?_
  refine ac (s_ildn (M := M_Lw_feeds) (pc := 43) (k := 2) h43) ?_
  refine ac (s_ild (M := M_Lw_feeds) (pc := 44) h44) ?_
  refine ac (s_iadd (M := M_Lw_feeds) (pc := 46) h46) ?_
  refine ac (s_callV (M := M_Lw_feeds) (pc := 47) (tz_Lw rfl) h47 q_jStr_charAt wd680 wd681 wd682 rfl (T := TJ0) (N := 4) rfl) ?_
  refine ac (s_goto (M := M_Lw_feeds) (pc := 50) h50 (by decide)) ?_
  refine ac (s_bipush (M := M_Lw_feeds) (pc := 53) h53 (by decide)) ?_
  refine ac (s_bipush (M := M_Lw_feeds) (pc := 55) h55 (by decide)) ?_
  refine ac (s_bipush (M := M_Lw_feeds) (pc := 57) h57 (by decide)) ?_
  refine ac (s_ild (M := M_Lw_feeds) (pc := 59) h59) ?_
  refine ac (s_iconst (M := M_Lw_feeds) (pc := 61) h61 rfl) ?_
  refine ac (s_irem (M := M_Lw_feeds) (pc := 62) h62) ?_
  refine ac (s_imul (M := M_Lw_feeds) (pc := 63) h63) ?_
  refine ac (s_isub (M := M_Lw_feeds) (pc := 64) h64) ?_
  refine ac (s_ishl (M := M_Lw_feeds) (pc := 65) h65) ?_
  refine ac (s_ior (M := M_Lw_feeds) (pc := 66) h66) ?_
  refine ac (s_iast (M := M_Lw_feeds) (pc := 67) h67) ?_
  refine ac (s_iinc (M := M_Lw_feeds) (pc := 68) h68 rfl (by decide)) ?_
  refine ac (s_goto (M := M_Lw_feeds) (pc := 71) h71 (by decide)) ?_
  refine ac (s_aldn (M := M_Lw_feeds) (pc := 74) (k := 0) h74) ?_
  refine ac (s_aldn (M := M_Lw_feeds) (pc := 75) (k := 3) h75) ?_
  refine ac (s_iconst (M := M_Lw_feeds) (pc := 76) h76 rfl) ?_
  refine ac (s_iald (M := M_Lw_feeds) (pc := 77) h77) ?_
  refine ac (s_aldn (M := M_Lw_feeds) (pc := 78) (k := 3) h78) ?_
  refine ac (s_iconst (M := M_Lw_feeds) (pc := 79) h79 rfl) ?_
  refine ac (s_iald (M := M_Lw_feeds) (pc := 80) h80) ?_
  refine ac (s_aldn (M := M_Lw_feeds) (pc := 81) (k := 3) h81) ?_
  refine ac (s_iconst (M := M_Lw_feeds) (pc := 82) h82 rfl) ?_
  refine ac (s_iald (M := M_Lw_feeds) (pc := 83) h83) ?_
  refine ac (s_aldn (M := M_Lw_feeds) (pc := 84) (k := 3) h84) ?_
  refine ac (s_iconst (M := M_Lw_feeds) (pc := 85) h85 rfl) ?_
  refine ac (s_iald (M := M_Lw_feeds) (pc := 86) h86) ?_
  refine ac (s_aldn (M := M_Lw_feeds) (pc := 87) (k := 3) h87) ?_
  refine ac (s_iconst (M := M_Lw_feeds) (pc := 88) h88 rfl) ?_
  refine ac (s_iald (M := M_Lw_feeds) (pc := 89) h89) ?_
  refine ac (s_callV (M := M_Lw_feeds) (pc := 90) (tz_Lw rfl) h90 q_R_appendInput wd718 wd719 wd720 rfl (T := TX7) (N := 12) rfl) ?_
  refine ac (s_pop (M := M_Lw_feeds) (pc := 93) h93) ?_
  refine ac (s_iinc (M := M_Lw_feeds) (pc := 94) h94 rfl (by decide)) ?_
  refine ac (s_goto (M := M_Lw_feeds) (pc := 97) h97 (by decide)) ?_
  refine ac (s_aldn (M := M_Lw_feeds) (pc := 100) (k := 0) h100) ?_
  refine ac (s_aldn (M := M_Lw_feeds) (pc := 101) (k := 1) h101) ?_
  refine ac (s_callV (M := M_Lw_feeds) (pc := 102) (tz_Lw rfl) h102 q_jStr_length wd671 wd672 wd673 rfl (T := TJ0) (N := 4) rfl) ?_
  refine ac (s_callV (M := M_Lw_feeds) (pc := 105) (tz_Lw rfl) h105 q_R_truncateInput wd726 wd727 wd728 rfl (T := TX7) (N := 12) rfl) ?_
  refine ac (s_pop (M := M_Lw_feeds) (pc := 108) h108) ?_
  refine ac (s_vret (M := M_Lw_feeds) (pc := 109) h109 rfl) ?_
  exact ac_nil
theorem e0_Lw_isBounded : decode method_7_code 0 = .ok (.lconst 1, 1) ∧ decode method_7_code 1 = .ok (.lstore_n 1, 1) ∧ decode method_7_code 2 = .ok (.lconst 1, 1) ∧ decode method_7_code 3 = .ok (.lstore_n 3, 1) ∧ decode method_7_code 4 = .ok (.iconst 0, 1) ∧ decode method_7_code 5 = .ok (.istore 5, 2) ∧ decode method_7_code 7 = .ok (.iload 5, 2) ∧ decode method_7_code 9 = .ok (.aload_n 0, 1) ∧ decode method_7_code 10 = .ok (.iconst 0, 1) ∧ decode method_7_code 11 = .ok (.invokevirtual 71, 3) ∧ decode method_7_code 14 = .ok (.if_icmp .ge 45, 3) ∧ decode method_7_code 17 = .ok (.lload_n 1, 1) := by decide +kernel
theorem e1_Lw_isBounded : decode method_7_code 18 = .ok (.aload_n 0, 1) ∧ decode method_7_code 19 = .ok (.iload 5, 2) ∧ decode method_7_code 21 = .ok (.invokevirtual 75, 3) ∧ decode method_7_code 24 = .ok (.i2l, 1) ∧ decode method_7_code 25 = .ok (.lmul, 1) ∧ decode method_7_code 26 = .ok (.lstore_n 1, 1) ∧ decode method_7_code 27 = .ok (.iload 5, 2) ∧ decode method_7_code 29 = .ok (.aload_n 0, 1) ∧ decode method_7_code 30 = .ok (.iconst 0, 1) ∧ decode method_7_code 31 = .ok (.invokevirtual 71, 3) ∧ decode method_7_code 34 = .ok (.aload_n 0, 1) ∧ decode method_7_code 35 = .ok (.iconst 1, 1) := by decide +kernel
theorem e2_Lw_isBounded : decode method_7_code 36 = .ok (.invokevirtual 71, 3) ∧ decode method_7_code 39 = .ok (.isub, 1) ∧ decode method_7_code 40 = .ok (.if_icmp .ge 13, 3) ∧ decode method_7_code 43 = .ok (.lload_n 3, 1) ∧ decode method_7_code 44 = .ok (.aload_n 0, 1) ∧ decode method_7_code 45 = .ok (.iload 5, 2) ∧ decode method_7_code 47 = .ok (.invokevirtual 75, 3) ∧ decode method_7_code 50 = .ok (.i2l, 1) ∧ decode method_7_code 51 = .ok (.lmul, 1) ∧ decode method_7_code 52 = .ok (.lstore_n 3, 1) ∧ decode method_7_code 53 = .ok (.iinc 5 1, 3) ∧ decode method_7_code 56 = .ok (.goto (-49), 3) := by decide +kernel
theorem e3_Lw_isBounded : decode method_7_code 59 = .ok (.aload_n 0, 1) ∧ decode method_7_code 60 = .ok (.iconst 1, 1) ∧ decode method_7_code 61 = .ok (.invokevirtual 78, 3) ∧ decode method_7_code 64 = .ok (.lload_n 1, 1) ∧ decode method_7_code 65 = .ok (.lcmp, 1) ∧ decode method_7_code 66 = .ok (.ifCond .ne 33, 3) ∧ decode method_7_code 69 = .ok (.aload_n 0, 1) ∧ decode method_7_code 70 = .ok (.iconst 0, 1) ∧ decode method_7_code 71 = .ok (.invokevirtual 78, 3) ∧ decode method_7_code 74 = .ok (.lload_n 3, 1) ∧ decode method_7_code 75 = .ok (.lcmp, 1) ∧ decode method_7_code 76 = .ok (.ifCond .ne 23, 3) := by decide +kernel
theorem e4_Lw_isBounded : decode method_7_code 79 = .ok (.aload_n 0, 1) ∧ decode method_7_code 80 = .ok (.iconst 2, 1) ∧ decode method_7_code 81 = .ok (.invokevirtual 78, 3) ∧ decode method_7_code 84 = .ok (.lload_n 3, 1) ∧ decode method_7_code 85 = .ok (.lconst 1, 1) ∧ decode method_7_code 86 = .ok (.lsub, 1) ∧ decode method_7_code 87 = .ok (.ldc2_w 82, 3) ∧ decode method_7_code 90 = .ok (.ldiv, 1) ∧ decode method_7_code 91 = .ok (.lcmp, 1) ∧ decode method_7_code 92 = .ok (.ifCond .ne 7, 3) ∧ decode method_7_code 95 = .ok (.iconst 1, 1) ∧ decode method_7_code 96 = .ok (.goto 4, 3) := by decide +kernel
theorem e5_Lw_isBounded : decode method_7_code 99 = .ok (.iconst 0, 1) ∧ decode method_7_code 100 = .ok (.ireturn, 1) := by decide +kernel
def T_Lw_isBounded : TT := [(0, o_push (.long (lI 1)) 1), (1, o_lst 1 2), (2, o_push (.long (lI 1)) 3), (3, o_lst 3 4), (4, o_push (.int (iI (0))) 5), (5, o_ist 5 7), (7, o_ild 5 9), (9, o_ald 0 10), (10, o_push (.int (iI (0))) 11), (11, o_callV M_R_count 0 2 14), (14, o_icmp_ge 59 17), (17, o_lld 1 18), (18, o_ald 0 19), (19, o_ild 5 21), (21, o_callV M_R_modulus 0 2 24), (24, o_i2l 25), (25, o_lmul 26), (26, o_lst 1 27), (27, o_ild 5 29), (29, o_ald 0 30), (30, o_push (.int (iI (0))) 31), (31, o_callV M_R_count 0 2 34), (34, o_ald 0 35), (35, o_push (.int (iI (1))) 36), (36, o_callV M_R_count 0 2 39), (39, o_isub 40), (40, o_icmp_ge 53 43), (43, o_lld 3 44), (44, o_ald 0 45), (45, o_ild 5 47), (47, o_callV M_R_modulus 0 2 50), (50, o_i2l 51), (51, o_lmul 52), (52, o_lst 3 53), (53, o_iinc 5 (iI (1)) 56), (56, o_goto 7), (59, o_ald 0 60), (60, o_push (.int (iI (1))) 61), (61, o_callV M_R_bound 0 2 64), (64, o_lld 1 65), (65, o_lc_ne 99 69), (69, o_ald 0 70), (70, o_push (.int (iI (0))) 71), (71, o_callV M_R_bound 0 2 74), (74, o_lld 3 75), (75, o_lc_ne 99 79), (79, o_ald 0 80), (80, o_push (.int (iI (2))) 81), (81, o_callV M_R_bound 0 2 84), (84, o_lld 3 85), (85, o_push (.long (lI 1)) 86), (86, o_lsub 87), (87, o_push (.long (lI (2))) 90), (90, o_ldiv 91), (91, o_lc_ne 99 95), (95, o_push (.int (iI (1))) 96), (96, o_goto 100), (99, o_push (.int (iI (0))) 100), (100, o_zret)]
theorem k_Lw_isBounded : ∀ x ∈ T_Lw_isBounded, SO M_Lw_isBounded x.1 x.2 := by
  obtain ⟨h0, h1, h2, h3, h4, h5, h7, h9, h10, h11, h14, h17⟩ := e0_Lw_isBounded
  obtain ⟨h18, h19, h21, h24, h25, h26, h27, h29, h30, h31, h34, h35⟩ := e1_Lw_isBounded
  obtain ⟨h36, h39, h40, h43, h44, h45, h47, h50, h51, h52, h53, h56⟩ := e2_Lw_isBounded
  obtain ⟨h59, h60, h61, h64, h65, h66, h69, h70, h71, h74, h75, h76⟩ := e3_Lw_isBounded
  obtain ⟨h79, h80, h81, h84, h85, h86, h87, h90, h91, h92, h95, h96⟩ := e4_Lw_isBounded
  obtain ⟨h99, h100⟩ := e5_Lw_isBounded
  refine ac (s_lconst (M := M_Lw_isBounded) (pc := 0) h0 (by decide)) ?_
  refine ac (s_lstn (M := M_Lw_isBounded) (pc := 1) (k := 1) h1 (by decide)) ?_
  refine ac (s_lconst (M := M_Lw_isBounded) (pc := 2) h2 (by decide)) ?_
  refine ac (s_lstn (M := M_Lw_isBounded) (pc := 3) (k := 3) h3 (by decide)) ?_
  refine ac (s_iconst (M := M_Lw_isBounded) (pc := 4) h4 rfl) ?_
  refine ac (s_ist (M := M_Lw_isBounded) (pc := 5) h5 (by decide)) ?_
  refine ac (s_ild (M := M_Lw_isBounded) (pc := 7) h7) ?_
  refine ac (s_aldn (M := M_Lw_isBounded) (pc := 9) (k := 0) h9) ?_
  refine ac (s_iconst (M := M_Lw_isBounded) (pc := 10) h10 rfl) ?_
  refine ac (s_callV (M := M_Lw_isBounded) (pc := 11) (tz_Lw rfl) h11 q_R_count wd322 wd323 wd324 rfl (T := TX7) (N := 12) rfl) ?_
  refine ac (s_icmp_ge (M := M_Lw_isBounded) (pc := 14) h14 (by decide)) ?_
  refine ac (s_lldn (M := M_Lw_isBounded) (pc := 17) (k := 1) h17) ?_
  refine ac (s_aldn (M := M_Lw_isBounded) (pc := 18) (k := 0) h18) ?_
  refine ac (s_ild (M := M_Lw_isBounded) (pc := 19) h19) ?_
  refine ac (s_callV (M := M_Lw_isBounded) (pc := 21) (tz_Lw rfl) h21 q_R_modulus wd431 wd432 wd433 rfl (T := TX7) (N := 12) rfl) ?_
  refine ac (s_i2l (M := M_Lw_isBounded) (pc := 24) h24) ?_
  refine ac (s_lmul (M := M_Lw_isBounded) (pc := 25) h25) ?_
  refine ac (s_lstn (M := M_Lw_isBounded) (pc := 26) (k := 1) h26 (by decide)) ?_
  refine ac (s_ild (M := M_Lw_isBounded) (pc := 27) h27) ?_
  refine ac (s_aldn (M := M_Lw_isBounded) (pc := 29) (k := 0) h29) ?_
  refine ac (s_iconst (M := M_Lw_isBounded) (pc := 30) h30 rfl) ?_
  refine ac (s_callV (M := M_Lw_isBounded) (pc := 31) (tz_Lw rfl) h31 q_R_count wd322 wd323 wd324 rfl (T := TX7) (N := 12) rfl) ?_
  refine ac (s_aldn (M := M_Lw_isBounded) (pc := 34) (k := 0) h34) ?_
  refine ac (s_iconst (M := M_Lw_isBounded) (pc := 35) h35 rfl) ?_
  refine ac (s_callV (M := M_Lw_isBounded) (pc := 36) (tz_Lw rfl) h36 q_R_count wd322 wd323 wd324 rfl (T := TX7) (N := 12) rfl) ?_
  refine ac (s_isub (M := M_Lw_isBounded) (pc := 39) h39) ?_
  refine ac (s_icmp_ge (M := M_Lw_isBounded) (pc := 40) h40 (by decide)) ?_
  refine ac (s_lldn (M := M_Lw_isBounded) (pc := 43) (k := 3) h43) ?_
  refine ac (s_aldn (M := M_Lw_isBounded) (pc := 44) (k := 0) h44) ?_
  refine ac (s_ild (M := M_Lw_isBounded) (pc := 45) h45) ?_
  refine ac (s_callV (M := M_Lw_isBounded) (pc := 47) (tz_Lw rfl) h47 q_R_modulus wd431 wd432 wd433 rfl (T := TX7) (N := 12) rfl) ?_
  refine ac (s_i2l (M := M_Lw_isBounded) (pc := 50) h50) ?_
  refine ac (s_lmul (M := M_Lw_isBounded) (pc := 51) h51) ?_
  refine ac (s_lstn (M := M_Lw_isBounded) (pc := 52) (k := 3) h52 (by decide)) ?_
  refine ac (s_iinc (M := M_Lw_isBounded) (pc := 53) h53 rfl (by decide)) ?_
  refine ac (s_goto (M := M_Lw_isBounded) (pc := 56) h56 (by decide)) ?_
  refine ac (s_aldn (M := M_Lw_isBounded) (pc := 59) (k := 0) h59) ?_
  refine ac (s_iconst (M := M_Lw_isBounded) (pc := 60) h60 rfl) ?_
  refine ac (s_callV (M := M_Lw_isBounded) (pc := 61) (tz_Lw rfl) h61 q_R_bound wd426 wd427 wd428 rfl (T := TX7) (N := 12) rfl) ?_
  refine ac (s_lldn (M := M_Lw_isBounded) (pc := 64) (k := 1) h64) ?_
  refine ac (s_lc_ne (M := M_Lw_isBounded) (pc := 65) h65 h66 (by decide)) ?_
  refine ac (s_aldn (M := M_Lw_isBounded) (pc := 69) (k := 0) h69) ?_
  refine ac (s_iconst (M := M_Lw_isBounded) (pc := 70) h70 rfl) ?_
  refine ac (s_callV (M := M_Lw_isBounded) (pc := 71) (tz_Lw rfl) h71 q_R_bound wd426 wd427 wd428 rfl (T := TX7) (N := 12) rfl) ?_
  refine ac (s_lldn (M := M_Lw_isBounded) (pc := 74) (k := 3) h74) ?_
  refine ac (s_lc_ne (M := M_Lw_isBounded) (pc := 75) h75 h76 (by decide)) ?_
  refine ac (s_aldn (M := M_Lw_isBounded) (pc := 79) (k := 0) h79) ?_
  refine ac (s_iconst (M := M_Lw_isBounded) (pc := 80) h80 rfl) ?_
  refine ac (s_callV (M := M_Lw_isBounded) (pc := 81) (tz_Lw rfl) h81 q_R_bound wd426 wd427 wd428 rfl (T := TX7) (N := 12) rfl) ?_
  refine ac (s_lldn (M := M_Lw_isBounded) (pc := 84) (k := 3) h84) ?_
  refine ac (s_lconst (M := M_Lw_isBounded) (pc := 85) h85 (by decide)) ?_
  refine ac (s_lsub (M := M_Lw_isBounded) (pc := 86) h86) ?_
  refine ac (s_ldc2 (M := M_Lw_isBounded) (pc := 87) h87 wd1133) ?_
  refine ac (s_ldiv (M := M_Lw_isBounded) (pc := 90) h90) ?_
  refine ac (s_lc_ne (M := M_Lw_isBounded) (pc := 91) h91 h92 (by decide)) ?_
  refine ac (s_iconst (M := M_Lw_isBounded) (pc := 95) h95 rfl) ?_
  refine ac (s_goto (M := M_Lw_isBounded) (pc := 96) h96 (by decide)) ?_
  refine ac (s_iconst (M := M_Lw_isBounded) (pc := 99) h99 rfl) ?_
  refine ac (s_zret (M := M_Lw_isBounded) (pc := 100) h100 rfl) ?_
  exact ac_nil
theorem e0_Lw_isTold : decode method_8_code 0 = .ok (.aload_n 0, 1) ∧ decode method_8_code 1 = .ok (.iload_n 1, 1) ∧ decode method_8_code 2 = .ok (.invokevirtual 84, 3) ∧ decode method_8_code 5 = .ok (.lstore_n 2, 1) ∧ decode method_8_code 6 = .ok (.lconst 0, 1) ∧ decode method_8_code 7 = .ok (.lstore 4, 2) ∧ decode method_8_code 9 = .ok (.lconst 1, 1) ∧ decode method_8_code 10 = .ok (.lstore 6, 2) ∧ decode method_8_code 12 = .ok (.lconst 0, 1) ∧ decode method_8_code 13 = .ok (.lstore 8, 2) ∧ decode method_8_code 15 = .ok (.iconst 0, 1) ∧ decode method_8_code 16 = .ok (.istore 10, 2) := by decide +kernel
theorem e1_Lw_isTold : decode method_8_code 18 = .ok (.iload 10, 2) ∧ decode method_8_code 20 = .ok (.aload_n 0, 1) ∧ decode method_8_code 21 = .ok (.iconst 0, 1) ∧ decode method_8_code 22 = .ok (.invokevirtual 71, 3) ∧ decode method_8_code 25 = .ok (.if_icmp .ge 123, 3) ∧ decode method_8_code 28 = .ok (.lload_n 2, 1) ∧ decode method_8_code 29 = .ok (.aload_n 0, 1) ∧ decode method_8_code 30 = .ok (.iload 10, 2) ∧ decode method_8_code 32 = .ok (.invokevirtual 75, 3) ∧ decode method_8_code 35 = .ok (.i2l, 1) ∧ decode method_8_code 36 = .ok (.lrem, 1) ∧ decode method_8_code 37 = .ok (.aload_n 0, 1) := by decide +kernel
theorem e2_Lw_isTold : decode method_8_code 38 = .ok (.iload_n 1, 1) ∧ decode method_8_code 39 = .ok (.iload 10, 2) ∧ decode method_8_code 41 = .ok (.invokevirtual 87, 3) ∧ decode method_8_code 44 = .ok (.i2l, 1) ∧ decode method_8_code 45 = .ok (.lcmp, 1) ∧ decode method_8_code 46 = .ok (.ifCond .ne 54, 3) ∧ decode method_8_code 49 = .ok (.aload_n 0, 1) ∧ decode method_8_code 50 = .ok (.iload_n 1, 1) ∧ decode method_8_code 51 = .ok (.iload 10, 2) ∧ decode method_8_code 53 = .ok (.invokevirtual 91, 3) ∧ decode method_8_code 56 = .ok (.aload_n 0, 1) ∧ decode method_8_code 57 = .ok (.iload_n 1, 1) := by decide +kernel
theorem e3_Lw_isTold : decode method_8_code 58 = .ok (.iload 10, 2) ∧ decode method_8_code 60 = .ok (.invokevirtual 87, 3) ∧ decode method_8_code 63 = .ok (.i2l, 1) ∧ decode method_8_code 64 = .ok (.aload_n 0, 1) ∧ decode method_8_code 65 = .ok (.iload 10, 2) ∧ decode method_8_code 67 = .ok (.invokevirtual 95, 3) ∧ decode method_8_code 70 = .ok (.lmul, 1) ∧ decode method_8_code 71 = .ok (.aload_n 0, 1) ∧ decode method_8_code 72 = .ok (.iconst 1, 1) ∧ decode method_8_code 73 = .ok (.invokevirtual 78, 3) ∧ decode method_8_code 76 = .ok (.lrem, 1) ∧ decode method_8_code 77 = .ok (.lcmp, 1) := by decide +kernel
theorem e4_Lw_isTold : decode method_8_code 78 = .ok (.ifCond .ne 22, 3) ∧ decode method_8_code 81 = .ok (.aload_n 0, 1) ∧ decode method_8_code 82 = .ok (.iload 10, 2) ∧ decode method_8_code 84 = .ok (.invokevirtual 95, 3) ∧ decode method_8_code 87 = .ok (.aload_n 0, 1) ∧ decode method_8_code 88 = .ok (.iload 10, 2) ∧ decode method_8_code 90 = .ok (.invokevirtual 75, 3) ∧ decode method_8_code 93 = .ok (.i2l, 1) ∧ decode method_8_code 94 = .ok (.lrem, 1) ∧ decode method_8_code 95 = .ok (.lconst 1, 1) ∧ decode method_8_code 96 = .ok (.lcmp, 1) ∧ decode method_8_code 97 = .ok (.ifCond .eq 5, 3) := by decide +kernel
theorem e5_Lw_isTold : decode method_8_code 100 = .ok (.iconst 0, 1) ∧ decode method_8_code 101 = .ok (.ireturn, 1) ∧ decode method_8_code 102 = .ok (.lload 4, 2) ∧ decode method_8_code 104 = .ok (.lload 6, 2) ∧ decode method_8_code 106 = .ok (.aload_n 0, 1) ∧ decode method_8_code 107 = .ok (.iload_n 1, 1) ∧ decode method_8_code 108 = .ok (.iload 10, 2) ∧ decode method_8_code 110 = .ok (.invokevirtual 98, 3) ∧ decode method_8_code 113 = .ok (.i2l, 1) ∧ decode method_8_code 114 = .ok (.lmul, 1) ∧ decode method_8_code 115 = .ok (.ladd, 1) ∧ decode method_8_code 116 = .ok (.lstore 4, 2) := by decide +kernel
theorem e6_Lw_isTold : decode method_8_code 118 = .ok (.lload 6, 2) ∧ decode method_8_code 120 = .ok (.aload_n 0, 1) ∧ decode method_8_code 121 = .ok (.iload 10, 2) ∧ decode method_8_code 123 = .ok (.invokevirtual 75, 3) ∧ decode method_8_code 126 = .ok (.i2l, 1) ∧ decode method_8_code 127 = .ok (.lmul, 1) ∧ decode method_8_code 128 = .ok (.lstore 6, 2) ∧ decode method_8_code 130 = .ok (.lload 8, 2) ∧ decode method_8_code 132 = .ok (.aload_n 0, 1) ∧ decode method_8_code 133 = .ok (.iload_n 1, 1) ∧ decode method_8_code 134 = .ok (.iload 10, 2) ∧ decode method_8_code 136 = .ok (.invokevirtual 91, 3) := by decide +kernel
theorem e7_Lw_isTold : decode method_8_code 139 = .ok (.ladd, 1) ∧ decode method_8_code 140 = .ok (.lstore 8, 2) ∧ decode method_8_code 142 = .ok (.iinc 10 1, 3) ∧ decode method_8_code 145 = .ok (.goto (-127), 3) ∧ decode method_8_code 148 = .ok (.lload_n 2, 1) ∧ decode method_8_code 149 = .ok (.aload_n 0, 1) ∧ decode method_8_code 150 = .ok (.iconst 1, 1) ∧ decode method_8_code 151 = .ok (.invokevirtual 78, 3) ∧ decode method_8_code 154 = .ok (.lconst 1, 1) ∧ decode method_8_code 155 = .ok (.lsub, 1) ∧ decode method_8_code 156 = .ok (.ldc2_w 82, 3) ∧ decode method_8_code 159 = .ok (.ldiv, 1) := by decide +kernel
theorem e8_Lw_isTold : decode method_8_code 160 = .ok (.lcmp, 1) ∧ decode method_8_code 161 = .ok (.ifCond .gt 7, 3) ∧ decode method_8_code 164 = .ok (.lload_n 2, 1) ∧ decode method_8_code 165 = .ok (.goto 10, 3) ∧ decode method_8_code 168 = .ok (.lload_n 2, 1) ∧ decode method_8_code 169 = .ok (.aload_n 0, 1) ∧ decode method_8_code 170 = .ok (.iconst 1, 1) ∧ decode method_8_code 171 = .ok (.invokevirtual 78, 3) ∧ decode method_8_code 174 = .ok (.lsub, 1) ∧ decode method_8_code 175 = .ok (.lstore 10, 2) ∧ decode method_8_code 177 = .ok (.lload 4, 2) ∧ decode method_8_code 179 = .ok (.lload_n 2, 1) := by decide +kernel
theorem e9_Lw_isTold : decode method_8_code 180 = .ok (.lcmp, 1) ∧ decode method_8_code 181 = .ok (.ifCond .ne 34, 3) ∧ decode method_8_code 184 = .ok (.lload 8, 2) ∧ decode method_8_code 186 = .ok (.lload_n 2, 1) ∧ decode method_8_code 187 = .ok (.aload_n 0, 1) ∧ decode method_8_code 188 = .ok (.iload_n 1, 1) ∧ decode method_8_code 189 = .ok (.invokevirtual 101, 3) ∧ decode method_8_code 192 = .ok (.i2l, 1) ∧ decode method_8_code 193 = .ok (.aload_n 0, 1) ∧ decode method_8_code 194 = .ok (.iconst 1, 1) ∧ decode method_8_code 195 = .ok (.invokevirtual 78, 3) ∧ decode method_8_code 198 = .ok (.lmul, 1) := by decide +kernel
theorem e10_Lw_isTold : decode method_8_code 199 = .ok (.ladd, 1) ∧ decode method_8_code 200 = .ok (.lcmp, 1) ∧ decode method_8_code 201 = .ok (.ifCond .ne 14, 3) ∧ decode method_8_code 204 = .ok (.aload_n 0, 1) ∧ decode method_8_code 205 = .ok (.iload_n 1, 1) ∧ decode method_8_code 206 = .ok (.invokevirtual 104, 3) ∧ decode method_8_code 209 = .ok (.lload 10, 2) ∧ decode method_8_code 211 = .ok (.lcmp, 1) ∧ decode method_8_code 212 = .ok (.ifCond .eq 5, 3) ∧ decode method_8_code 215 = .ok (.iconst 0, 1) ∧ decode method_8_code 216 = .ok (.ireturn, 1) ∧ decode method_8_code 217 = .ok (.aload_n 0, 1) := by decide +kernel
theorem e11_Lw_isTold : decode method_8_code 218 = .ok (.iload_n 1, 1) ∧ decode method_8_code 219 = .ok (.invokevirtual 107, 3) ∧ decode method_8_code 222 = .ok (.lload 10, 2) ∧ decode method_8_code 224 = .ok (.aload_n 0, 1) ∧ decode method_8_code 225 = .ok (.iconst 2, 1) ∧ decode method_8_code 226 = .ok (.invokevirtual 78, 3) ∧ decode method_8_code 229 = .ok (.lneg, 1) ∧ decode method_8_code 230 = .ok (.lcmp, 1) ∧ decode method_8_code 231 = .ok (.ifCond .lt 18, 3) ∧ decode method_8_code 234 = .ok (.lload 10, 2) ∧ decode method_8_code 236 = .ok (.aload_n 0, 1) ∧ decode method_8_code 237 = .ok (.iconst 2, 1) := by decide +kernel
theorem e12_Lw_isTold : decode method_8_code 238 = .ok (.invokevirtual 78, 3) ∧ decode method_8_code 241 = .ok (.lcmp, 1) ∧ decode method_8_code 242 = .ok (.ifCond .gt 7, 3) ∧ decode method_8_code 245 = .ok (.iconst 1, 1) ∧ decode method_8_code 246 = .ok (.goto 4, 3) ∧ decode method_8_code 249 = .ok (.iconst 0, 1) ∧ decode method_8_code 250 = .ok (.if_icmp .ne 23, 3) ∧ decode method_8_code 253 = .ok (.aload_n 0, 1) ∧ decode method_8_code 254 = .ok (.iload_n 1, 1) ∧ decode method_8_code 255 = .ok (.invokevirtual 110, 3) ∧ decode method_8_code 258 = .ok (.ifCond .eq 11, 3) ∧ decode method_8_code 261 = .ok (.aload_n 0, 1) := by decide +kernel
theorem e13_Lw_isTold : decode method_8_code 262 = .ok (.iload_n 1, 1) ∧ decode method_8_code 263 = .ok (.invokevirtual 107, 3) ∧ decode method_8_code 266 = .ok (.ifCond .ne 7, 3) ∧ decode method_8_code 269 = .ok (.iconst 1, 1) ∧ decode method_8_code 270 = .ok (.goto 4, 3) ∧ decode method_8_code 273 = .ok (.iconst 0, 1) ∧ decode method_8_code 274 = .ok (.ireturn, 1) := by decide +kernel
def T_Lw_isTold : TT := [(0, o_ald 0 1), (1, o_ild 1 2), (2, o_callV M_R_value 0 2 5), (5, o_lst 2 6), (6, o_push (.long (lI 0)) 7), (7, o_lst 4 9), (9, o_push (.long (lI 1)) 10), (10, o_lst 6 12), (12, o_push (.long (lI 0)) 13), (13, o_lst 8 15), (15, o_push (.int (iI (0))) 16), (16, o_ist 10 18), (18, o_ild 10 20), (20, o_ald 0 21), (21, o_push (.int (iI (0))) 22), (22, o_callV M_R_count 0 2 25), (25, o_icmp_ge 148 28), (28, o_lld 2 29), (29, o_ald 0 30), (30, o_ild 10 32), (32, o_callV M_R_modulus 0 2 35), (35, o_i2l 36), (36, o_lrem 37), (37, o_ald 0 38), (38, o_ild 1 39), (39, o_ild 10 41), (41, o_callV M_R_rest 0 3 44), (44, o_i2l 45), (45, o_lc_ne 100 49), (49, o_ald 0 50), (50, o_ild 1 51), (51, o_ild 10 53), (53, o_callV M_R_part 0 3 56), (56, o_ald 0 57), (57, o_ild 1 58), (58, o_ild 10 60), (60, o_callV M_R_rest 0 3 63), (63, o_i2l 64), (64, o_ald 0 65), (65, o_ild 10 67), (67, o_callV M_R_weight 0 2 70), (70, o_lmul 71), (71, o_ald 0 72), (72, o_push (.int (iI (1))) 73), (73, o_callV M_R_bound 0 2 76), (76, o_lrem 77), (77, o_lc_ne 100 81), (81, o_ald 0 82), (82, o_ild 10 84), (84, o_callV M_R_weight 0 2 87), (87, o_ald 0 88), (88, o_ild 10 90), (90, o_callV M_R_modulus 0 2 93), (93, o_i2l 94), (94, o_lrem 95), (95, o_push (.long (lI 1)) 96), (96, o_lc_eq 102 100), (100, o_push (.int (iI (0))) 101), (101, o_zret), (102, o_lld 4 104), (104, o_lld 6 106), (106, o_ald 0 107), (107, o_ild 1 108), (108, o_ild 10 110), (110, o_callV M_R_digit 0 3 113), (113, o_i2l 114), (114, o_lmul 115), (115, o_ladd 116), (116, o_lst 4 118), (118, o_lld 6 120), (120, o_ald 0 121), (121, o_ild 10 123), (123, o_callV M_R_modulus 0 2 126), (126, o_i2l 127), (127, o_lmul 128), (128, o_lst 6 130), (130, o_lld 8 132), (132, o_ald 0 133), (133, o_ild 1 134), (134, o_ild 10 136), (136, o_callV M_R_part 0 3 139), (139, o_ladd 140), (140, o_lst 8 142), (142, o_iinc 10 (iI (1)) 145), (145, o_goto 18), (148, o_lld 2 149), (149, o_ald 0 150), (150, o_push (.int (iI (1))) 151), (151, o_callV M_R_bound 0 2 154), (154, o_push (.long (lI 1)) 155), (155, o_lsub 156), (156, o_push (.long (lI (2))) 159), (159, o_ldiv 160), (160, o_lc_gt 168 164), (164, o_lld 2 165), (165, o_goto 175), (168, o_lld 2 169), (169, o_ald 0 170), (170, o_push (.int (iI (1))) 171), (171, o_callV M_R_bound 0 2 174), (174, o_lsub 175), (175, o_lst 10 177), (177, o_lld 4 179), (179, o_lld 2 180), (180, o_lc_ne 215 184), (184, o_lld 8 186), (186, o_lld 2 187), (187, o_ald 0 188), (188, o_ild 1 189), (189, o_callV M_R_rank 0 2 192), (192, o_i2l 193), (193, o_ald 0 194), (194, o_push (.int (iI (1))) 195), (195, o_callV M_R_bound 0 2 198), (198, o_lmul 199), (199, o_ladd 200), (200, o_lc_ne 215 204), (204, o_ald 0 205), (205, o_ild 1 206), (206, o_callV M_R_number 0 2 209), (209, o_lld 10 211), (211, o_lc_eq 217 215), (215, o_push (.int (iI (0))) 216), (216, o_zret), (217, o_ald 0 218), (218, o_ild 1 219), (219, o_callV M_R_isSound 0 2 222), (222, o_lld 10 224), (224, o_ald 0 225), (225, o_push (.int (iI (2))) 226), (226, o_callV M_R_bound 0 2 229), (229, o_lneg 230), (230, o_lc_lt 249 234), (234, o_lld 10 236), (236, o_ald 0 237), (237, o_push (.int (iI (2))) 238), (238, o_callV M_R_bound 0 2 241), (241, o_lc_gt 249 245), (245, o_push (.int (iI (1))) 246), (246, o_goto 250), (249, o_push (.int (iI (0))) 250), (250, o_icmp_ne 273 253), (253, o_ald 0 254), (254, o_ild 1 255), (255, o_callV M_R_faults 0 2 258), (258, o_if_eq 269 261), (261, o_ald 0 262), (262, o_ild 1 263), (263, o_callV M_R_isSound 0 2 266), (266, o_if_ne 273 269), (269, o_push (.int (iI (1))) 270), (270, o_goto 274), (273, o_push (.int (iI (0))) 274), (274, o_zret)]
theorem k_Lw_isTold : ∀ x ∈ T_Lw_isTold, SO M_Lw_isTold x.1 x.2 := by
  obtain ⟨h0, h1, h2, h5, h6, h7, h9, h10, h12, h13, h15, h16⟩ := e0_Lw_isTold
  obtain ⟨h18, h20, h21, h22, h25, h28, h29, h30, h32, h35, h36, h37⟩ := e1_Lw_isTold
  obtain ⟨h38, h39, h41, h44, h45, h46, h49, h50, h51, h53, h56, h57⟩ := e2_Lw_isTold
  obtain ⟨h58, h60, h63, h64, h65, h67, h70, h71, h72, h73, h76, h77⟩ := e3_Lw_isTold
  obtain ⟨h78, h81, h82, h84, h87, h88, h90, h93, h94, h95, h96, h97⟩ := e4_Lw_isTold
  obtain ⟨h100, h101, h102, h104, h106, h107, h108, h110, h113, h114, h115, h116⟩ := e5_Lw_isTold
  obtain ⟨h118, h120, h121, h123, h126, h127, h128, h130, h132, h133, h134, h136⟩ := e6_Lw_isTold
  obtain ⟨h139, h140, h142, h145, h148, h149, h150, h151, h154, h155, h156, h159⟩ := e7_Lw_isTold
  obtain ⟨h160, h161, h164, h165, h168, h169, h170, h171, h174, h175, h177, h179⟩ := e8_Lw_isTold
  obtain ⟨h180, h181, h184, h186, h187, h188, h189, h192, h193, h194, h195, h198⟩ := e9_Lw_isTold
  obtain ⟨h199, h200, h201, h204, h205, h206, h209, h211, h212, h215, h216, h217⟩ := e10_Lw_isTold
  obtain ⟨h218, h219, h222, h224, h225, h226, h229, h230, h231, h234, h236, h237⟩ := e11_Lw_isTold
  obtain ⟨h238, h241, h242, h245, h246, h249, h250, h253, h254, h255, h258, h261⟩ := e12_Lw_isTold
  obtain ⟨h262, h263, h266, h269, h270, h273, h274⟩ := e13_Lw_isTold
  refine ac (s_aldn (M := M_Lw_isTold) (pc := 0) (k := 0) h0) ?_
  refine ac (s_ildn (M := M_Lw_isTold) (pc := 1) (k := 1) h1) ?_
  refine ac (s_callV (M := M_Lw_isTold) (pc := 2) (tz_Lw rfl) h2 q_R_value wd1137 wd1138 wd1139 rfl (T := TX7) (N := 12) rfl) ?_
  refine ac (s_lstn (M := M_Lw_isTold) (pc := 5) (k := 2) h5 (by decide)) ?_
  refine ac (s_lconst (M := M_Lw_isTold) (pc := 6) h6 (by decide)) ?_
  refine ac (s_lst (M := M_Lw_isTold) (pc := 7) h7 (by decide)) ?_
  refine ac (s_lconst (M := M_Lw_isTold) (pc := 9) h9 (by decide)) ?_
  refine ac (s_lst (M := M_Lw_isTold) (pc := 10) h10 (by decide)) ?_
  refine ac (s_lconst (M := M_Lw_isTold) (pc := 12) h12 (by decide)) ?_
  refine ac (s_lst (M := M_Lw_isTold) (pc := 13) h13 (by decide)) ?_
  refine ac (s_iconst (M := M_Lw_isTold) (pc := 15) h15 rfl) ?_
  refine ac (s_ist (M := M_Lw_isTold) (pc := 16) h16 (by decide)) ?_
  refine ac (s_ild (M := M_Lw_isTold) (pc := 18) h18) ?_
  refine ac (s_aldn (M := M_Lw_isTold) (pc := 20) (k := 0) h20) ?_
  refine ac (s_iconst (M := M_Lw_isTold) (pc := 21) h21 rfl) ?_
  refine ac (s_callV (M := M_Lw_isTold) (pc := 22) (tz_Lw rfl) h22 q_R_count wd322 wd323 wd324 rfl (T := TX7) (N := 12) rfl) ?_
  refine ac (s_icmp_ge (M := M_Lw_isTold) (pc := 25) h25 (by decide)) ?_
  refine ac (s_lldn (M := M_Lw_isTold) (pc := 28) (k := 2) h28) ?_
  refine ac (s_aldn (M := M_Lw_isTold) (pc := 29) (k := 0) h29) ?_
  refine ac (s_ild (M := M_Lw_isTold) (pc := 30) h30) ?_
  refine ac (s_callV (M := M_Lw_isTold) (pc := 32) (tz_Lw rfl) h32 q_R_modulus wd431 wd432 wd433 rfl (T := TX7) (N := 12) rfl) ?_
  refine ac (s_i2l (M := M_Lw_isTold) (pc := 35) h35) ?_
  refine ac (s_lrem (M := M_Lw_isTold) (pc := 36) h36) ?_
  refine ac (s_aldn (M := M_Lw_isTold) (pc := 37) (k := 0) h37) ?_
  refine ac (s_ildn (M := M_Lw_isTold) (pc := 38) (k := 1) h38) ?_
  refine ac (s_ild (M := M_Lw_isTold) (pc := 39) h39) ?_
  refine ac (s_callV (M := M_Lw_isTold) (pc := 41) (tz_Lw rfl) h41 q_R_rest wd455 wd456 wd457 rfl (T := TX7) (N := 12) rfl) ?_
  refine ac (s_i2l (M := M_Lw_isTold) (pc := 44) h44) ?_
  refine ac (s_lc_ne (M := M_Lw_isTold) (pc := 45) h45 h46 (by decide)) ?_
  refine ac (s_aldn (M := M_Lw_isTold) (pc := 49) (k := 0) h49) ?_
  refine ac (s_ildn (M := M_Lw_isTold) (pc := 50) (k := 1) h50) ?_
  refine ac (s_ild (M := M_Lw_isTold) (pc := 51) h51) ?_
  refine ac (s_callV (M := M_Lw_isTold) (pc := 53) (tz_Lw rfl) h53 q_R_part wd1141 wd1142 wd1143 rfl (T := TX7) (N := 12) rfl) ?_
  refine ac (s_aldn (M := M_Lw_isTold) (pc := 56) (k := 0) h56) ?_
  refine ac (s_ildn (M := M_Lw_isTold) (pc := 57) (k := 1) h57) ?_
  refine ac (s_ild (M := M_Lw_isTold) (pc := 58) h58) ?_
  refine ac (s_callV (M := M_Lw_isTold) (pc := 60) (tz_Lw rfl) h60 q_R_rest wd455 wd456 wd457 rfl (T := TX7) (N := 12) rfl) ?_
  refine ac (s_i2l (M := M_Lw_isTold) (pc := 63) h63) ?_
  refine ac (s_aldn (M := M_Lw_isTold) (pc := 64) (k := 0) h64) ?_
  refine ac (s_ild (M := M_Lw_isTold) (pc := 65) h65) ?_
  refine ac (s_callV (M := M_Lw_isTold) (pc := 67) (tz_Lw rfl) h67 q_R_weight wd1146 wd1147 wd1148 rfl (T := TX7) (N := 12) rfl) ?_
  refine ac (s_lmul (M := M_Lw_isTold) (pc := 70) h70) ?_
  refine ac (s_aldn (M := M_Lw_isTold) (pc := 71) (k := 0) h71) ?_
  refine ac (s_iconst (M := M_Lw_isTold) (pc := 72) h72 rfl) ?_
  refine ac (s_callV (M := M_Lw_isTold) (pc := 73) (tz_Lw rfl) h73 q_R_bound wd426 wd427 wd428 rfl (T := TX7) (N := 12) rfl) ?_
  refine ac (s_lrem (M := M_Lw_isTold) (pc := 76) h76) ?_
  refine ac (s_lc_ne (M := M_Lw_isTold) (pc := 77) h77 h78 (by decide)) ?_
  refine ac (s_aldn (M := M_Lw_isTold) (pc := 81) (k := 0) h81) ?_
  refine ac (s_ild (M := M_Lw_isTold) (pc := 82) h82) ?_
  refine ac (s_callV (M := M_Lw_isTold) (pc := 84) (tz_Lw rfl) h84 q_R_weight wd1146 wd1147 wd1148 rfl (T := TX7) (N := 12) rfl) ?_
  refine ac (s_aldn (M := M_Lw_isTold) (pc := 87) (k := 0) h87) ?_
  refine ac (s_ild (M := M_Lw_isTold) (pc := 88) h88) ?_
  refine ac (s_callV (M := M_Lw_isTold) (pc := 90) (tz_Lw rfl) h90 q_R_modulus wd431 wd432 wd433 rfl (T := TX7) (N := 12) rfl) ?_
  refine ac (s_i2l (M := M_Lw_isTold) (pc := 93) h93) ?_
  refine ac (s_lrem (M := M_Lw_isTold) (pc := 94) h94) ?_
  refine ac (s_lconst (M := M_Lw_isTold) (pc := 95) h95 (by decide)) ?_
  refine ac (s_lc_eq (M := M_Lw_isTold) (pc := 96) h96 h97 (by decide)) ?_
  refine ac (s_iconst (M := M_Lw_isTold) (pc := 100) h100 rfl) ?_
  refine ac (s_zret (M := M_Lw_isTold) (pc := 101) h101 rfl) ?_
  refine ac (s_lld (M := M_Lw_isTold) (pc := 102) h102) ?_
  refine ac (s_lld (M := M_Lw_isTold) (pc := 104) h104) ?_
  refine ac (s_aldn (M := M_Lw_isTold) (pc := 106) (k := 0) h106) ?_
  refine ac (s_ildn (M := M_Lw_isTold) (pc := 107) (k := 1) h107) ?_
  refine ac (s_ild (M := M_Lw_isTold) (pc := 108) h108) ?_
  refine ac (s_callV (M := M_Lw_isTold) (pc := 110) (tz_Lw rfl) h110 q_R_digit wd1151 wd1152 wd1153 rfl (T := TX7) (N := 12) rfl) ?_
  refine ac (s_i2l (M := M_Lw_isTold) (pc := 113) h113) ?_
  refine ac (s_lmul (M := M_Lw_isTold) (pc := 114) h114) ?_
  refine ac (s_ladd (M := M_Lw_isTold) (pc := 115) h115) ?_
  refine ac (s_lst (M := M_Lw_isTold) (pc := 116) h116 (by decide)) ?_
  refine ac (s_lld (M := M_Lw_isTold) (pc := 118) h118) ?_
  refine ac (s_aldn (M := M_Lw_isTold) (pc := 120) (k := 0) h120) ?_
  refine ac (s_ild (M := M_Lw_isTold) (pc := 121) h121) ?_
  refine ac (s_callV (M := M_Lw_isTold) (pc := 123) (tz_Lw rfl) h123 q_R_modulus wd431 wd432 wd433 rfl (T := TX7) (N := 12) rfl) ?_
  refine ac (s_i2l (M := M_Lw_isTold) (pc := 126) h126) ?_
  refine ac (s_lmul (M := M_Lw_isTold) (pc := 127) h127) ?_
  refine ac (s_lst (M := M_Lw_isTold) (pc := 128) h128 (by decide)) ?_
  refine ac (s_lld (M := M_Lw_isTold) (pc := 130) h130) ?_
  refine ac (s_aldn (M := M_Lw_isTold) (pc := 132) (k := 0) h132) ?_
  refine ac (s_ildn (M := M_Lw_isTold) (pc := 133) (k := 1) h133) ?_
  refine ac (s_ild (M := M_Lw_isTold) (pc := 134) h134) ?_
  refine ac (s_callV (M := M_Lw_isTold) (pc := 136) (tz_Lw rfl) h136 q_R_part wd1141 wd1142 wd1143 rfl (T := TX7) (N := 12) rfl) ?_
  refine ac (s_ladd (M := M_Lw_isTold) (pc := 139) h139) ?_
  refine ac (s_lst (M := M_Lw_isTold) (pc := 140) h140 (by decide)) ?_
  refine ac (s_iinc (M := M_Lw_isTold) (pc := 142) h142 rfl (by decide)) ?_
  refine ac (s_goto (M := M_Lw_isTold) (pc := 145) h145 (by decide)) ?_
  refine ac (s_lldn (M := M_Lw_isTold) (pc := 148) (k := 2) h148) ?_
  refine ac (s_aldn (M := M_Lw_isTold) (pc := 149) (k := 0) h149) ?_
  refine ac (s_iconst (M := M_Lw_isTold) (pc := 150) h150 rfl) ?_
  refine ac (s_callV (M := M_Lw_isTold) (pc := 151) (tz_Lw rfl) h151 q_R_bound wd426 wd427 wd428 rfl (T := TX7) (N := 12) rfl) ?_
  refine ac (s_lconst (M := M_Lw_isTold) (pc := 154) h154 (by decide)) ?_
  refine ac (s_lsub (M := M_Lw_isTold) (pc := 155) h155) ?_
  refine ac (s_ldc2 (M := M_Lw_isTold) (pc := 156) h156 wd1133) ?_
  refine ac (s_ldiv (M := M_Lw_isTold) (pc := 159) h159) ?_
  refine ac (s_lc_gt (M := M_Lw_isTold) (pc := 160) h160 h161 (by decide)) ?_
  refine ac (s_lldn (M := M_Lw_isTold) (pc := 164) (k := 2) h164) ?_
  refine ac (s_goto (M := M_Lw_isTold) (pc := 165) h165 (by decide)) ?_
  refine ac (s_lldn (M := M_Lw_isTold) (pc := 168) (k := 2) h168) ?_
  refine ac (s_aldn (M := M_Lw_isTold) (pc := 169) (k := 0) h169) ?_
  refine ac (s_iconst (M := M_Lw_isTold) (pc := 170) h170 rfl) ?_
  refine ac (s_callV (M := M_Lw_isTold) (pc := 171) (tz_Lw rfl) h171 q_R_bound wd426 wd427 wd428 rfl (T := TX7) (N := 12) rfl) ?_
  refine ac (s_lsub (M := M_Lw_isTold) (pc := 174) h174) ?_
  refine ac (s_lst (M := M_Lw_isTold) (pc := 175) h175 (by decide)) ?_
  refine ac (s_lld (M := M_Lw_isTold) (pc := 177) h177) ?_
  refine ac (s_lldn (M := M_Lw_isTold) (pc := 179) (k := 2) h179) ?_
  refine ac (s_lc_ne (M := M_Lw_isTold) (pc := 180) h180 h181 (by decide)) ?_
  refine ac (s_lld (M := M_Lw_isTold) (pc := 184) h184) ?_
  refine ac (s_lldn (M := M_Lw_isTold) (pc := 186) (k := 2) h186) ?_
  refine ac (s_aldn (M := M_Lw_isTold) (pc := 187) (k := 0) h187) ?_
  refine ac (s_ildn (M := M_Lw_isTold) (pc := 188) (k := 1) h188) ?_
  refine ac (s_callV (M := M_Lw_isTold) (pc := 189) (tz_Lw rfl) h189 q_R_rank wd1156 wd1157 wd1158 rfl (T := TX7) (N := 12) rfl) ?_
  refine ac (s_i2l (M := M_Lw_isTold) (pc := 192) h192) ?_
  refine ac (s_aldn (M := M_Lw_isTold) (pc := 193) (k := 0) h193) ?_
  refine ac (s_iconst (M := M_Lw_isTold) (pc := 194) h194 rfl) ?_
  refine ac (s_callV (M := M_Lw_isTold) (pc := 195) (tz_Lw rfl) h195 q_R_bound wd426 wd427 wd428 rfl (T := TX7) (N := 12) rfl) ?_
  refine ac (s_lmul (M := M_Lw_isTold) (pc := 198) h198) ?_
  refine ac (s_ladd (M := M_Lw_isTold) (pc := 199) h199) ?_
  refine ac (s_lc_ne (M := M_Lw_isTold) (pc := 200) h200 h201 (by decide)) ?_
  refine ac (s_aldn (M := M_Lw_isTold) (pc := 204) (k := 0) h204) ?_
  refine ac (s_ildn (M := M_Lw_isTold) (pc := 205) (k := 1) h205) ?_
  refine ac (s_callV (M := M_Lw_isTold) (pc := 206) (tz_Lw rfl) h206 q_R_number wd469 wd470 wd471 rfl (T := TX7) (N := 12) rfl) ?_
  refine ac (s_lld (M := M_Lw_isTold) (pc := 209) h209) ?_
  refine ac (s_lc_eq (M := M_Lw_isTold) (pc := 211) h211 h212 (by decide)) ?_
  refine ac (s_iconst (M := M_Lw_isTold) (pc := 215) h215 rfl) ?_
  refine ac (s_zret (M := M_Lw_isTold) (pc := 216) h216 rfl) ?_
  refine ac (s_aldn (M := M_Lw_isTold) (pc := 217) (k := 0) h217) ?_
  refine ac (s_ildn (M := M_Lw_isTold) (pc := 218) (k := 1) h218) ?_
  refine ac (s_callV (M := M_Lw_isTold) (pc := 219) (tz_Lw rfl) h219 q_R_isSound wd474 wd475 wd476 rfl (T := TX7) (N := 12) rfl) ?_
  refine ac (s_lld (M := M_Lw_isTold) (pc := 222) h222) ?_
  refine ac (s_aldn (M := M_Lw_isTold) (pc := 224) (k := 0) h224) ?_
  refine ac (s_iconst (M := M_Lw_isTold) (pc := 225) h225 rfl) ?_
  refine ac (s_callV (M := M_Lw_isTold) (pc := 226) (tz_Lw rfl) h226 q_R_bound wd426 wd427 wd428 rfl (T := TX7) (N := 12) rfl) ?_
  refine ac (s_lneg (M := M_Lw_isTold) (pc := 229) h229) ?_
  refine ac (s_lc_lt (M := M_Lw_isTold) (pc := 230) h230 h231 (by decide)) ?_
  refine ac (s_lld (M := M_Lw_isTold) (pc := 234) h234) ?_
  refine ac (s_aldn (M := M_Lw_isTold) (pc := 236) (k := 0) h236) ?_
  refine ac (s_iconst (M := M_Lw_isTold) (pc := 237) h237 rfl) ?_
  refine ac (s_callV (M := M_Lw_isTold) (pc := 238) (tz_Lw rfl) h238 q_R_bound wd426 wd427 wd428 rfl (T := TX7) (N := 12) rfl) ?_
  refine ac (s_lc_gt (M := M_Lw_isTold) (pc := 241) h241 h242 (by decide)) ?_
  refine ac (s_iconst (M := M_Lw_isTold) (pc := 245) h245 rfl) ?_
  refine ac (s_goto (M := M_Lw_isTold) (pc := 246) h246 (by decide)) ?_
  refine ac (s_iconst (M := M_Lw_isTold) (pc := 249) h249 rfl) ?_
  refine ac (s_icmp_ne (M := M_Lw_isTold) (pc := 250) h250 (by decide)) ?_
  refine ac (s_aldn (M := M_Lw_isTold) (pc := 253) (k := 0) h253) ?_
  refine ac (s_ildn (M := M_Lw_isTold) (pc := 254) (k := 1) h254) ?_
  refine ac (s_callV (M := M_Lw_isTold) (pc := 255) (tz_Lw rfl) h255 q_R_faults wd525 wd526 wd527 rfl (T := TX7) (N := 12) rfl) ?_
  refine ac (s_if_eq (M := M_Lw_isTold) (pc := 258) h258 (by decide)) ?_
  refine ac (s_aldn (M := M_Lw_isTold) (pc := 261) (k := 0) h261) ?_
  refine ac (s_ildn (M := M_Lw_isTold) (pc := 262) (k := 1) h262) ?_
  refine ac (s_callV (M := M_Lw_isTold) (pc := 263) (tz_Lw rfl) h263 q_R_isSound wd474 wd475 wd476 rfl (T := TX7) (N := 12) rfl) ?_
  refine ac (s_if_ne (M := M_Lw_isTold) (pc := 266) h266 (by decide)) ?_
  refine ac (s_iconst (M := M_Lw_isTold) (pc := 269) h269 rfl) ?_
  refine ac (s_goto (M := M_Lw_isTold) (pc := 270) h270 (by decide)) ?_
  refine ac (s_iconst (M := M_Lw_isTold) (pc := 273) h273 rfl) ?_
  refine ac (s_zret (M := M_Lw_isTold) (pc := 274) h274 rfl) ?_
  exact ac_nil
theorem e0_Lw_isOperated : decode method_11_code 0 = .ok (.aload_n 0, 1) ∧ decode method_11_code 1 = .ok (.iload_n 3, 1) ∧ decode method_11_code 2 = .ok (.invokevirtual 104, 3) ∧ decode method_11_code 5 = .ok (.lstore 5, 2) ∧ decode method_11_code 7 = .ok (.aload_n 0, 1) ∧ decode method_11_code 8 = .ok (.iload 4, 2) ∧ decode method_11_code 10 = .ok (.invokevirtual 104, 3) ∧ decode method_11_code 13 = .ok (.lstore 7, 2) ∧ decode method_11_code 15 = .ok (.aload_n 0, 1) ∧ decode method_11_code 16 = .ok (.iload_n 2, 1) ∧ decode method_11_code 17 = .ok (.invokevirtual 104, 3) ∧ decode method_11_code 20 = .ok (.lstore 9, 2) := by decide +kernel
theorem e1_Lw_isOperated : decode method_11_code 22 = .ok (.aload_n 0, 1) ∧ decode method_11_code 23 = .ok (.iload_n 1, 1) ∧ decode method_11_code 24 = .ok (.iload_n 3, 1) ∧ decode method_11_code 25 = .ok (.iload 4, 2) ∧ decode method_11_code 27 = .ok (.invokevirtual 122, 3) ∧ decode method_11_code 30 = .ok (.istore 11, 2) ∧ decode method_11_code 32 = .ok (.iload_n 1, 1) ∧ decode method_11_code 33 = .ok (.iconst 2, 1) ∧ decode method_11_code 34 = .ok (.if_icmp .le 14, 3) ∧ decode method_11_code 37 = .ok (.lload 7, 2) ∧ decode method_11_code 39 = .ok (.lconst 0, 1) ∧ decode method_11_code 40 = .ok (.lcmp, 1) := by decide +kernel
theorem e2_Lw_isOperated : decode method_11_code 41 = .ok (.ifCond .ne 7, 3) ∧ decode method_11_code 44 = .ok (.iconst 1, 1) ∧ decode method_11_code 45 = .ok (.goto 4, 3) ∧ decode method_11_code 48 = .ok (.iconst 0, 1) ∧ decode method_11_code 49 = .ok (.istore 12, 2) ∧ decode method_11_code 51 = .ok (.iload 12, 2) ∧ decode method_11_code 53 = .ok (.iload 11, 2) ∧ decode method_11_code 55 = .ok (.iconst 1, 1) ∧ decode method_11_code 56 = .ok (.if_icmp .ne 7, 3) ∧ decode method_11_code 59 = .ok (.iconst 1, 1) ∧ decode method_11_code 60 = .ok (.goto 4, 3) ∧ decode method_11_code 63 = .ok (.iconst 0, 1) := by decide +kernel
theorem e3_Lw_isOperated : decode method_11_code 64 = .ok (.if_icmp .ne 28, 3) ∧ decode method_11_code 67 = .ok (.iload 12, 2) ∧ decode method_11_code 69 = .ok (.ifCond .ne 25, 3) ∧ decode method_11_code 72 = .ok (.aload_n 0, 1) ∧ decode method_11_code 73 = .ok (.iload_n 1, 1) ∧ decode method_11_code 74 = .ok (.iload_n 3, 1) ∧ decode method_11_code 75 = .ok (.iload 4, 2) ∧ decode method_11_code 77 = .ok (.invokevirtual 126, 3) ∧ decode method_11_code 80 = .ok (.iload_n 1, 1) ∧ decode method_11_code 81 = .ok (.lload 5, 2) ∧ decode method_11_code 83 = .ok (.lload 7, 2) ∧ decode method_11_code 85 = .ok (.invokestatic 130, 3) := by decide +kernel
theorem e4_Lw_isOperated : decode method_11_code 88 = .ok (.lcmp, 1) ∧ decode method_11_code 89 = .ok (.ifCond .eq 5, 3) ∧ decode method_11_code 92 = .ok (.iconst 0, 1) ∧ decode method_11_code 93 = .ok (.ireturn, 1) ∧ decode method_11_code 94 = .ok (.aload_n 0, 1) ∧ decode method_11_code 95 = .ok (.iconst 0, 1) ∧ decode method_11_code 96 = .ok (.invokevirtual 133, 3) ∧ decode method_11_code 99 = .ok (.istore 13, 2) ∧ decode method_11_code 101 = .ok (.aload_n 0, 1) ∧ decode method_11_code 102 = .ok (.bipush 6, 2) ∧ decode method_11_code 104 = .ok (.invokevirtual 133, 3) ∧ decode method_11_code 107 = .ok (.istore 14, 2) := by decide +kernel
theorem e5_Lw_isOperated : decode method_11_code 109 = .ok (.iload 11, 2) ∧ decode method_11_code 111 = .ok (.iconst 1, 1) ∧ decode method_11_code 112 = .ok (.if_icmp .eq 9, 3) ∧ decode method_11_code 115 = .ok (.iload 11, 2) ∧ decode method_11_code 117 = .ok (.iconst 2, 1) ∧ decode method_11_code 118 = .ok (.if_icmp .ne 12, 3) ∧ decode method_11_code 121 = .ok (.aload_n 0, 1) ∧ decode method_11_code 122 = .ok (.iload 11, 2) ∧ decode method_11_code 124 = .ok (.invokevirtual 133, 3) ∧ decode method_11_code 127 = .ok (.goto 4, 3) ∧ decode method_11_code 130 = .ok (.iconst 0, 1) ∧ decode method_11_code 131 = .ok (.istore 15, 2) := by decide +kernel
theorem e6_Lw_isOperated : decode method_11_code 133 = .ok (.aload_n 0, 1) ∧ decode method_11_code 134 = .ok (.iload_n 1, 1) ∧ decode method_11_code 135 = .ok (.iload_n 2, 1) ∧ decode method_11_code 136 = .ok (.iload_n 3, 1) ∧ decode method_11_code 137 = .ok (.iload 4, 2) ∧ decode method_11_code 139 = .ok (.invokevirtual 136, 3) ∧ decode method_11_code 142 = .ok (.istore 16, 2) ∧ decode method_11_code 144 = .ok (.iload 16, 2) ∧ decode method_11_code 146 = .ok (.iload 11, 2) ∧ decode method_11_code 148 = .ok (.bipush 6, 2) ∧ decode method_11_code 150 = .ok (.if_icmp .ne 7, 3) ∧ decode method_11_code 153 = .ok (.iconst 0, 1) := by decide +kernel
theorem e7_Lw_isOperated : decode method_11_code 154 = .ok (.goto 5, 3) ∧ decode method_11_code 157 = .ok (.iload 11, 2) ∧ decode method_11_code 159 = .ok (.if_icmp .eq 5, 3) ∧ decode method_11_code 162 = .ok (.iconst 0, 1) ∧ decode method_11_code 163 = .ok (.ireturn, 1) ∧ decode method_11_code 164 = .ok (.iload 16, 2) ∧ decode method_11_code 166 = .ok (.ifCond .eq 43, 3) ∧ decode method_11_code 169 = .ok (.aload_n 0, 1) ∧ decode method_11_code 170 = .ok (.iload_n 2, 1) ∧ decode method_11_code 171 = .ok (.invokevirtual 104, 3) ∧ decode method_11_code 174 = .ok (.lload 9, 2) ∧ decode method_11_code 176 = .ok (.lcmp, 1) := by decide +kernel
theorem e8_Lw_isOperated : decode method_11_code 177 = .ok (.ifCond .ne 30, 3) ∧ decode method_11_code 180 = .ok (.aload_n 0, 1) ∧ decode method_11_code 181 = .ok (.iload 16, 2) ∧ decode method_11_code 183 = .ok (.invokevirtual 133, 3) ∧ decode method_11_code 186 = .ok (.iload 15, 2) ∧ decode method_11_code 188 = .ok (.iconst 1, 1) ∧ decode method_11_code 189 = .ok (.iadd, 1) ∧ decode method_11_code 190 = .ok (.if_icmp .ne 17, 3) ∧ decode method_11_code 193 = .ok (.aload_n 0, 1) ∧ decode method_11_code 194 = .ok (.iconst 0, 1) ∧ decode method_11_code 195 = .ok (.invokevirtual 133, 3) ∧ decode method_11_code 198 = .ok (.iload 13, 2) := by decide +kernel
theorem e9_Lw_isOperated : decode method_11_code 200 = .ok (.if_icmp .ne 7, 3) ∧ decode method_11_code 203 = .ok (.iconst 1, 1) ∧ decode method_11_code 204 = .ok (.goto 4, 3) ∧ decode method_11_code 207 = .ok (.iconst 0, 1) ∧ decode method_11_code 208 = .ok (.ireturn, 1) ∧ decode method_11_code 209 = .ok (.aload_n 0, 1) ∧ decode method_11_code 210 = .ok (.iconst 1, 1) ∧ decode method_11_code 211 = .ok (.invokevirtual 78, 3) ∧ decode method_11_code 214 = .ok (.lstore 17, 2) ∧ decode method_11_code 216 = .ok (.iload_n 1, 1) ∧ decode method_11_code 217 = .ok (.lload 5, 2) ∧ decode method_11_code 219 = .ok (.lload 7, 2) := by decide +kernel
theorem e10_Lw_isOperated : decode method_11_code 221 = .ok (.invokestatic 130, 3) ∧ decode method_11_code 224 = .ok (.lstore 19, 2) ∧ decode method_11_code 226 = .ok (.lload 19, 2) ∧ decode method_11_code 228 = .ok (.lload 17, 2) ∧ decode method_11_code 230 = .ok (.invokestatic 140, 3) ∧ decode method_11_code 233 = .ok (.aload_n 0, 1) ∧ decode method_11_code 234 = .ok (.iload_n 2, 1) ∧ decode method_11_code 235 = .ok (.invokevirtual 84, 3) ∧ decode method_11_code 238 = .ok (.lcmp, 1) ∧ decode method_11_code 239 = .ok (.ifCond .ne 89, 3) ∧ decode method_11_code 242 = .ok (.iload 11, 2) ∧ decode method_11_code 244 = .ok (.ifCond .ne 7, 3) := by decide +kernel
theorem e11_Lw_isOperated : decode method_11_code 247 = .ok (.iconst 1, 1) ∧ decode method_11_code 248 = .ok (.goto 4, 3) ∧ decode method_11_code 251 = .ok (.iconst 0, 1) ∧ decode method_11_code 252 = .ok (.aload_n 0, 1) ∧ decode method_11_code 253 = .ok (.iload_n 2, 1) ∧ decode method_11_code 254 = .ok (.invokevirtual 104, 3) ∧ decode method_11_code 257 = .ok (.lload 19, 2) ∧ decode method_11_code 259 = .ok (.lcmp, 1) ∧ decode method_11_code 260 = .ok (.ifCond .ne 7, 3) ∧ decode method_11_code 263 = .ok (.iconst 1, 1) ∧ decode method_11_code 264 = .ok (.goto 4, 3) ∧ decode method_11_code 267 = .ok (.iconst 0, 1) := by decide +kernel
theorem e12_Lw_isOperated : decode method_11_code 268 = .ok (.if_icmp .ne 60, 3) ∧ decode method_11_code 271 = .ok (.aload_n 0, 1) ∧ decode method_11_code 272 = .ok (.iconst 0, 1) ∧ decode method_11_code 273 = .ok (.invokevirtual 133, 3) ∧ decode method_11_code 276 = .ok (.iload 13, 2) ∧ decode method_11_code 278 = .ok (.iconst 1, 1) ∧ decode method_11_code 279 = .ok (.iadd, 1) ∧ decode method_11_code 280 = .ok (.if_icmp .ne 48, 3) ∧ decode method_11_code 283 = .ok (.aload_n 0, 1) ∧ decode method_11_code 284 = .ok (.bipush 6, 2) ∧ decode method_11_code 286 = .ok (.invokevirtual 133, 3) ∧ decode method_11_code 289 = .ok (.iload 14, 2) := by decide +kernel
theorem e13_Lw_isOperated : decode method_11_code 291 = .ok (.aload_n 0, 1) ∧ decode method_11_code 292 = .ok (.iload_n 2, 1) ∧ decode method_11_code 293 = .ok (.invokevirtual 107, 3) ∧ decode method_11_code 296 = .ok (.ifCond .eq 7, 3) ∧ decode method_11_code 299 = .ok (.iconst 0, 1) ∧ decode method_11_code 300 = .ok (.goto 4, 3) ∧ decode method_11_code 303 = .ok (.iconst 1, 1) ∧ decode method_11_code 304 = .ok (.iadd, 1) ∧ decode method_11_code 305 = .ok (.if_icmp .ne 23, 3) ∧ decode method_11_code 308 = .ok (.aload_n 0, 1) ∧ decode method_11_code 309 = .ok (.iconst 2, 1) ∧ decode method_11_code 310 = .ok (.invokevirtual 71, 3) := by decide +kernel
theorem e14_Lw_isOperated : decode method_11_code 313 = .ok (.ifCond .eq 11, 3) ∧ decode method_11_code 316 = .ok (.aload_n 0, 1) ∧ decode method_11_code 317 = .ok (.iload_n 2, 1) ∧ decode method_11_code 318 = .ok (.invokevirtual 107, 3) ∧ decode method_11_code 321 = .ok (.ifCond .eq 7, 3) ∧ decode method_11_code 324 = .ok (.iconst 1, 1) ∧ decode method_11_code 325 = .ok (.goto 4, 3) ∧ decode method_11_code 328 = .ok (.iconst 0, 1) ∧ decode method_11_code 329 = .ok (.ireturn, 1) := by decide +kernel
def T_Lw_isOperated : TT := [(0, o_ald 0 1), (1, o_ild 3 2), (2, o_callV M_R_number 0 2 5), (5, o_lst 5 7), (7, o_ald 0 8), (8, o_ild 4 10), (10, o_callV M_R_number 0 2 13), (13, o_lst 7 15), (15, o_ald 0 16), (16, o_ild 2 17), (17, o_callV M_R_number 0 2 20), (20, o_lst 9 22), (22, o_ald 0 23), (23, o_ild 1 24), (24, o_ild 3 25), (25, o_ild 4 27), (27, o_callV M_R_why 0 4 30), (30, o_ist 11 32), (32, o_ild 1 33), (33, o_push (.int (iI (2))) 34), (34, o_icmp_le 48 37), (37, o_lld 7 39), (39, o_push (.long (lI 0)) 40), (40, o_lc_ne 48 44), (44, o_push (.int (iI (1))) 45), (45, o_goto 49), (48, o_push (.int (iI (0))) 49), (49, o_ist 12 51), (51, o_ild 12 53), (53, o_ild 11 55), (55, o_push (.int (iI (1))) 56), (56, o_icmp_ne 63 59), (59, o_push (.int (iI (1))) 60), (60, o_goto 64), (63, o_push (.int (iI (0))) 64), (64, o_icmp_ne 92 67), (67, o_ild 12 69), (69, o_if_ne 94 72), (72, o_ald 0 73), (73, o_ild 1 74), (74, o_ild 3 75), (75, o_ild 4 77), (77, o_callV M_R_exact 0 4 80), (80, o_ild 1 81), (81, o_lld 5 83), (83, o_lld 7 85), (85, o_call M_Lw_exact 3 88), (88, o_lc_eq 94 92), (92, o_push (.int (iI (0))) 93), (93, o_zret), (94, o_ald 0 95), (95, o_push (.int (iI (0))) 96), (96, o_callV M_R_account 0 2 99), (99, o_ist 13 101), (101, o_ald 0 102), (102, o_push (.int (iI (6))) 104), (104, o_callV M_R_account 0 2 107), (107, o_ist 14 109), (109, o_ild 11 111), (111, o_push (.int (iI (1))) 112), (112, o_icmp_eq 121 115), (115, o_ild 11 117), (117, o_push (.int (iI (2))) 118), (118, o_icmp_ne 130 121), (121, o_ald 0 122), (122, o_ild 11 124), (124, o_callV M_R_account 0 2 127), (127, o_goto 131), (130, o_push (.int (iI (0))) 131), (131, o_ist 15 133), (133, o_ald 0 134), (134, o_ild 1 135), (135, o_ild 2 136), (136, o_ild 3 137), (137, o_ild 4 139), (139, o_callV M_R_operate 0 5 142), (142, o_ist 16 144), (144, o_ild 16 146), (146, o_ild 11 148), (148, o_push (.int (iI (6))) 150), (150, o_icmp_ne 157 153), (153, o_push (.int (iI (0))) 154), (154, o_goto 159), (157, o_ild 11 159), (159, o_icmp_eq 164 162), (162, o_push (.int (iI (0))) 163), (163, o_zret), (164, o_ild 16 166), (166, o_if_eq 209 169), (169, o_ald 0 170), (170, o_ild 2 171), (171, o_callV M_R_number 0 2 174), (174, o_lld 9 176), (176, o_lc_ne 207 180), (180, o_ald 0 181), (181, o_ild 16 183), (183, o_callV M_R_account 0 2 186), (186, o_ild 15 188), (188, o_push (.int (iI (1))) 189), (189, o_iadd 190), (190, o_icmp_ne 207 193), (193, o_ald 0 194), (194, o_push (.int (iI (0))) 195), (195, o_callV M_R_account 0 2 198), (198, o_ild 13 200), (200, o_icmp_ne 207 203), (203, o_push (.int (iI (1))) 204), (204, o_goto 208), (207, o_push (.int (iI (0))) 208), (208, o_zret), (209, o_ald 0 210), (210, o_push (.int (iI (1))) 211), (211, o_callV M_R_bound 0 2 214), (214, o_lst 17 216), (216, o_ild 1 217), (217, o_lld 5 219), (219, o_lld 7 221), (221, o_call M_Lw_exact 3 224), (224, o_lst 19 226), (226, o_lld 19 228), (228, o_lld 17 230), (230, o_call M_jMath_floorMod 2 233), (233, o_ald 0 234), (234, o_ild 2 235), (235, o_callV M_R_value 0 2 238), (238, o_lc_ne 328 242), (242, o_ild 11 244), (244, o_if_ne 251 247), (247, o_push (.int (iI (1))) 248), (248, o_goto 252), (251, o_push (.int (iI (0))) 252), (252, o_ald 0 253), (253, o_ild 2 254), (254, o_callV M_R_number 0 2 257), (257, o_lld 19 259), (259, o_lc_ne 267 263), (263, o_push (.int (iI (1))) 264), (264, o_goto 268), (267, o_push (.int (iI (0))) 268), (268, o_icmp_ne 328 271), (271, o_ald 0 272), (272, o_push (.int (iI (0))) 273), (273, o_callV M_R_account 0 2 276), (276, o_ild 13 278), (278, o_push (.int (iI (1))) 279), (279, o_iadd 280), (280, o_icmp_ne 328 283), (283, o_ald 0 284), (284, o_push (.int (iI (6))) 286), (286, o_callV M_R_account 0 2 289), (289, o_ild 14 291), (291, o_ald 0 292), (292, o_ild 2 293), (293, o_callV M_R_isSound 0 2 296), (296, o_if_eq 303 299), (299, o_push (.int (iI (0))) 300), (300, o_goto 304), (303, o_push (.int (iI (1))) 304), (304, o_iadd 305), (305, o_icmp_ne 328 308), (308, o_ald 0 309), (309, o_push (.int (iI (2))) 310), (310, o_callV M_R_count 0 2 313), (313, o_if_eq 324 316), (316, o_ald 0 317), (317, o_ild 2 318), (318, o_callV M_R_isSound 0 2 321), (321, o_if_eq 328 324), (324, o_push (.int (iI (1))) 325), (325, o_goto 329), (328, o_push (.int (iI (0))) 329), (329, o_zret)]
theorem k_Lw_isOperated : ∀ x ∈ T_Lw_isOperated, SO M_Lw_isOperated x.1 x.2 := by
  obtain ⟨h0, h1, h2, h5, h7, h8, h10, h13, h15, h16, h17, h20⟩ := e0_Lw_isOperated
  obtain ⟨h22, h23, h24, h25, h27, h30, h32, h33, h34, h37, h39, h40⟩ := e1_Lw_isOperated
  obtain ⟨h41, h44, h45, h48, h49, h51, h53, h55, h56, h59, h60, h63⟩ := e2_Lw_isOperated
  obtain ⟨h64, h67, h69, h72, h73, h74, h75, h77, h80, h81, h83, h85⟩ := e3_Lw_isOperated
  obtain ⟨h88, h89, h92, h93, h94, h95, h96, h99, h101, h102, h104, h107⟩ := e4_Lw_isOperated
  obtain ⟨h109, h111, h112, h115, h117, h118, h121, h122, h124, h127, h130, h131⟩ := e5_Lw_isOperated
  obtain ⟨h133, h134, h135, h136, h137, h139, h142, h144, h146, h148, h150, h153⟩ := e6_Lw_isOperated
  obtain ⟨h154, h157, h159, h162, h163, h164, h166, h169, h170, h171, h174, h176⟩ := e7_Lw_isOperated
  obtain ⟨h177, h180, h181, h183, h186, h188, h189, h190, h193, h194, h195, h198⟩ := e8_Lw_isOperated
  obtain ⟨h200, h203, h204, h207, h208, h209, h210, h211, h214, h216, h217, h219⟩ := e9_Lw_isOperated
  obtain ⟨h221, h224, h226, h228, h230, h233, h234, h235, h238, h239, h242, h244⟩ := e10_Lw_isOperated
  obtain ⟨h247, h248, h251, h252, h253, h254, h257, h259, h260, h263, h264, h267⟩ := e11_Lw_isOperated
  obtain ⟨h268, h271, h272, h273, h276, h278, h279, h280, h283, h284, h286, h289⟩ := e12_Lw_isOperated
  obtain ⟨h291, h292, h293, h296, h299, h300, h303, h304, h305, h308, h309, h310⟩ := e13_Lw_isOperated
  obtain ⟨h313, h316, h317, h318, h321, h324, h325, h328, h329⟩ := e14_Lw_isOperated
  refine ac (s_aldn (M := M_Lw_isOperated) (pc := 0) (k := 0) h0) ?_
  refine ac (s_ildn (M := M_Lw_isOperated) (pc := 1) (k := 3) h1) ?_
  refine ac (s_callV (M := M_Lw_isOperated) (pc := 2) (tz_Lw rfl) h2 q_R_number wd469 wd470 wd471 rfl (T := TX7) (N := 12) rfl) ?_
  refine ac (s_lst (M := M_Lw_isOperated) (pc := 5) h5 (by decide)) ?_
  refine ac (s_aldn (M := M_Lw_isOperated) (pc := 7) (k := 0) h7) ?_
  refine ac (s_ild (M := M_Lw_isOperated) (pc := 8) h8) ?_
  refine ac (s_callV (M := M_Lw_isOperated) (pc := 10) (tz_Lw rfl) h10 q_R_number wd469 wd470 wd471 rfl (T := TX7) (N := 12) rfl) ?_
  refine ac (s_lst (M := M_Lw_isOperated) (pc := 13) h13 (by decide)) ?_
  refine ac (s_aldn (M := M_Lw_isOperated) (pc := 15) (k := 0) h15) ?_
  refine ac (s_ildn (M := M_Lw_isOperated) (pc := 16) (k := 2) h16) ?_
  refine ac (s_callV (M := M_Lw_isOperated) (pc := 17) (tz_Lw rfl) h17 q_R_number wd469 wd470 wd471 rfl (T := TX7) (N := 12) rfl) ?_
  refine ac (s_lst (M := M_Lw_isOperated) (pc := 20) h20 (by decide)) ?_
  refine ac (s_aldn (M := M_Lw_isOperated) (pc := 22) (k := 0) h22) ?_
  refine ac (s_ildn (M := M_Lw_isOperated) (pc := 23) (k := 1) h23) ?_
  refine ac (s_ildn (M := M_Lw_isOperated) (pc := 24) (k := 3) h24) ?_
  refine ac (s_ild (M := M_Lw_isOperated) (pc := 25) h25) ?_
  refine ac (s_callV (M := M_Lw_isOperated) (pc := 27) (tz_Lw rfl) h27 q_R_why wd1164 wd1165 wd1166 rfl (T := TX7) (N := 12) rfl) ?_
  refine ac (s_ist (M := M_Lw_isOperated) (pc := 30) h30 (by decide)) ?_
  refine ac (s_ildn (M := M_Lw_isOperated) (pc := 32) (k := 1) h32) ?_
  refine ac (s_iconst (M := M_Lw_isOperated) (pc := 33) h33 rfl) ?_
  refine ac (s_icmp_le (M := M_Lw_isOperated) (pc := 34) h34 (by decide)) ?_
  refine ac (s_lld (M := M_Lw_isOperated) (pc := 37) h37) ?_
  refine ac (s_lconst (M := M_Lw_isOperated) (pc := 39) h39 (by decide)) ?_
  refine ac (s_lc_ne (M := M_Lw_isOperated) (pc := 40) h40 h41 (by decide)) ?_
  refine ac (s_iconst (M := M_Lw_isOperated) (pc := 44) h44 rfl) ?_
  refine ac (s_goto (M := M_Lw_isOperated) (pc := 45) h45 (by decide)) ?_
  refine ac (s_iconst (M := M_Lw_isOperated) (pc := 48) h48 rfl) ?_
  refine ac (s_ist (M := M_Lw_isOperated) (pc := 49) h49 (by decide)) ?_
  refine ac (s_ild (M := M_Lw_isOperated) (pc := 51) h51) ?_
  refine ac (s_ild (M := M_Lw_isOperated) (pc := 53) h53) ?_
  refine ac (s_iconst (M := M_Lw_isOperated) (pc := 55) h55 rfl) ?_
  refine ac (s_icmp_ne (M := M_Lw_isOperated) (pc := 56) h56 (by decide)) ?_
  refine ac (s_iconst (M := M_Lw_isOperated) (pc := 59) h59 rfl) ?_
  refine ac (s_goto (M := M_Lw_isOperated) (pc := 60) h60 (by decide)) ?_
  refine ac (s_iconst (M := M_Lw_isOperated) (pc := 63) h63 rfl) ?_
  refine ac (s_icmp_ne (M := M_Lw_isOperated) (pc := 64) h64 (by decide)) ?_
  refine ac (s_ild (M := M_Lw_isOperated) (pc := 67) h67) ?_
  refine ac (s_if_ne (M := M_Lw_isOperated) (pc := 69) h69 (by decide)) ?_
  refine ac (s_aldn (M := M_Lw_isOperated) (pc := 72) (k := 0) h72) ?_
  refine ac (s_ildn (M := M_Lw_isOperated) (pc := 73) (k := 1) h73) ?_
  refine ac (s_ildn (M := M_Lw_isOperated) (pc := 74) (k := 3) h74) ?_
  refine ac (s_ild (M := M_Lw_isOperated) (pc := 75) h75) ?_
  refine ac (s_callV (M := M_Lw_isOperated) (pc := 77) (tz_Lw rfl) h77 q_R_exact wd1188 wd1189 wd1190 rfl (T := TX7) (N := 12) rfl) ?_
  refine ac (s_ildn (M := M_Lw_isOperated) (pc := 80) (k := 1) h80) ?_
  refine ac (s_lld (M := M_Lw_isOperated) (pc := 81) h81) ?_
  refine ac (s_lld (M := M_Lw_isOperated) (pc := 83) h83) ?_
  refine ac (s_callS (M := M_Lw_isOperated) (pc := 85) (tz_Lw rfl) h85 q_Lw_exact wd1208 wd1209) ?_
  refine ac (s_lc_eq (M := M_Lw_isOperated) (pc := 88) h88 h89 (by decide)) ?_
  refine ac (s_iconst (M := M_Lw_isOperated) (pc := 92) h92 rfl) ?_
  refine ac (s_zret (M := M_Lw_isOperated) (pc := 93) h93 rfl) ?_
  refine ac (s_aldn (M := M_Lw_isOperated) (pc := 94) (k := 0) h94) ?_
  refine ac (s_iconst (M := M_Lw_isOperated) (pc := 95) h95 rfl) ?_
  refine ac (s_callV (M := M_Lw_isOperated) (pc := 96) (tz_Lw rfl) h96 q_R_account wd418 wd419 wd420 rfl (T := TX7) (N := 12) rfl) ?_
  refine ac (s_ist (M := M_Lw_isOperated) (pc := 99) h99 (by decide)) ?_
  refine ac (s_aldn (M := M_Lw_isOperated) (pc := 101) (k := 0) h101) ?_
  refine ac (s_bipush (M := M_Lw_isOperated) (pc := 102) h102 (by decide)) ?_
  refine ac (s_callV (M := M_Lw_isOperated) (pc := 104) (tz_Lw rfl) h104 q_R_account wd418 wd419 wd420 rfl (T := TX7) (N := 12) rfl) ?_
  refine ac (s_ist (M := M_Lw_isOperated) (pc := 107) h107 (by decide)) ?_
  refine ac (s_ild (M := M_Lw_isOperated) (pc := 109) h109) ?_
  refine ac (s_iconst (M := M_Lw_isOperated) (pc := 111) h111 rfl) ?_
  refine ac (s_icmp_eq (M := M_Lw_isOperated) (pc := 112) h112 (by decide)) ?_
  refine ac (s_ild (M := M_Lw_isOperated) (pc := 115) h115) ?_
  refine ac (s_iconst (M := M_Lw_isOperated) (pc := 117) h117 rfl) ?_
  refine ac (s_icmp_ne (M := M_Lw_isOperated) (pc := 118) h118 (by decide)) ?_
  refine ac (s_aldn (M := M_Lw_isOperated) (pc := 121) (k := 0) h121) ?_
  refine ac (s_ild (M := M_Lw_isOperated) (pc := 122) h122) ?_
  refine ac (s_callV (M := M_Lw_isOperated) (pc := 124) (tz_Lw rfl) h124 q_R_account wd418 wd419 wd420 rfl (T := TX7) (N := 12) rfl) ?_
  refine ac (s_goto (M := M_Lw_isOperated) (pc := 127) h127 (by decide)) ?_
  refine ac (s_iconst (M := M_Lw_isOperated) (pc := 130) h130 rfl) ?_
  refine ac (s_ist (M := M_Lw_isOperated) (pc := 131) h131 (by decide)) ?_
  refine ac (s_aldn (M := M_Lw_isOperated) (pc := 133) (k := 0) h133) ?_
  refine ac (s_ildn (M := M_Lw_isOperated) (pc := 134) (k := 1) h134) ?_
  refine ac (s_ildn (M := M_Lw_isOperated) (pc := 135) (k := 2) h135) ?_
  refine ac (s_ildn (M := M_Lw_isOperated) (pc := 136) (k := 3) h136) ?_
  refine ac (s_ild (M := M_Lw_isOperated) (pc := 137) h137) ?_
  refine ac (s_callV (M := M_Lw_isOperated) (pc := 139) (tz_Lw rfl) h139 q_R_operate wd1215 wd1216 wd1217 rfl (T := TX7) (N := 12) rfl) ?_
  refine ac (s_ist (M := M_Lw_isOperated) (pc := 142) h142 (by decide)) ?_
  refine ac (s_ild (M := M_Lw_isOperated) (pc := 144) h144) ?_
  refine ac (s_ild (M := M_Lw_isOperated) (pc := 146) h146) ?_
  refine ac (s_bipush (M := M_Lw_isOperated) (pc := 148) h148 (by decide)) ?_
  refine ac (s_icmp_ne (M := M_Lw_isOperated) (pc := 150) h150 (by decide)) ?_
  refine ac (s_iconst (M := M_Lw_isOperated) (pc := 153) h153 rfl) ?_
  refine ac (s_goto (M := M_Lw_isOperated) (pc := 154) h154 (by decide)) ?_
  refine ac (s_ild (M := M_Lw_isOperated) (pc := 157) h157) ?_
  refine ac (s_icmp_eq (M := M_Lw_isOperated) (pc := 159) h159 (by decide)) ?_
  refine ac (s_iconst (M := M_Lw_isOperated) (pc := 162) h162 rfl) ?_
  refine ac (s_zret (M := M_Lw_isOperated) (pc := 163) h163 rfl) ?_
  refine ac (s_ild (M := M_Lw_isOperated) (pc := 164) h164) ?_
  refine ac (s_if_eq (M := M_Lw_isOperated) (pc := 166) h166 (by decide)) ?_
  refine ac (s_aldn (M := M_Lw_isOperated) (pc := 169) (k := 0) h169) ?_
  refine ac (s_ildn (M := M_Lw_isOperated) (pc := 170) (k := 2) h170) ?_
  refine ac (s_callV (M := M_Lw_isOperated) (pc := 171) (tz_Lw rfl) h171 q_R_number wd469 wd470 wd471 rfl (T := TX7) (N := 12) rfl) ?_
  refine ac (s_lld (M := M_Lw_isOperated) (pc := 174) h174) ?_
  refine ac (s_lc_ne (M := M_Lw_isOperated) (pc := 176) h176 h177 (by decide)) ?_
  refine ac (s_aldn (M := M_Lw_isOperated) (pc := 180) (k := 0) h180) ?_
  refine ac (s_ild (M := M_Lw_isOperated) (pc := 181) h181) ?_
  refine ac (s_callV (M := M_Lw_isOperated) (pc := 183) (tz_Lw rfl) h183 q_R_account wd418 wd419 wd420 rfl (T := TX7) (N := 12) rfl) ?_
  refine ac (s_ild (M := M_Lw_isOperated) (pc := 186) h186) ?_
  refine ac (s_iconst (M := M_Lw_isOperated) (pc := 188) h188 rfl) ?_
  refine ac (s_iadd (M := M_Lw_isOperated) (pc := 189) h189) ?_
  refine ac (s_icmp_ne (M := M_Lw_isOperated) (pc := 190) h190 (by decide)) ?_
  refine ac (s_aldn (M := M_Lw_isOperated) (pc := 193) (k := 0) h193) ?_
  refine ac (s_iconst (M := M_Lw_isOperated) (pc := 194) h194 rfl) ?_
  refine ac (s_callV (M := M_Lw_isOperated) (pc := 195) (tz_Lw rfl) h195 q_R_account wd418 wd419 wd420 rfl (T := TX7) (N := 12) rfl) ?_
  refine ac (s_ild (M := M_Lw_isOperated) (pc := 198) h198) ?_
  refine ac (s_icmp_ne (M := M_Lw_isOperated) (pc := 200) h200 (by decide)) ?_
  refine ac (s_iconst (M := M_Lw_isOperated) (pc := 203) h203 rfl) ?_
  refine ac (s_goto (M := M_Lw_isOperated) (pc := 204) h204 (by decide)) ?_
  refine ac (s_iconst (M := M_Lw_isOperated) (pc := 207) h207 rfl) ?_
  refine ac (s_zret (M := M_Lw_isOperated) (pc := 208) h208 rfl) ?_
  refine ac (s_aldn (M := M_Lw_isOperated) (pc := 209) (k := 0) h209) ?_
  refine ac (s_iconst (M := M_Lw_isOperated) (pc := 210) h210 rfl) ?_
  refine ac (s_callV (M := M_Lw_isOperated) (pc := 211) (tz_Lw rfl) h211 q_R_bound wd426 wd427 wd428 rfl (T := TX7) (N := 12) rfl) ?_
  refine ac (s_lst (M := M_Lw_isOperated) (pc := 214) h214 (by decide)) ?_
  refine ac (s_ildn (M := M_Lw_isOperated) (pc := 216) (k := 1) h216) ?_
  refine ac (s_lld (M := M_Lw_isOperated) (pc := 217) h217) ?_
  refine ac (s_lld (M := M_Lw_isOperated) (pc := 219) h219) ?_
  refine ac (s_callS (M := M_Lw_isOperated) (pc := 221) (tz_Lw rfl) h221 q_Lw_exact wd1208 wd1209) ?_
  refine ac (s_lst (M := M_Lw_isOperated) (pc := 224) h224 (by decide)) ?_
  refine ac (s_lld (M := M_Lw_isOperated) (pc := 226) h226) ?_
  refine ac (s_lld (M := M_Lw_isOperated) (pc := 228) h228) ?_
  refine ac (s_callS (M := M_Lw_isOperated) (pc := 230) (tz_Lw rfl) h230 q_jMath_floorMod wd1224 wd279) ?_
  refine ac (s_aldn (M := M_Lw_isOperated) (pc := 233) (k := 0) h233) ?_
  refine ac (s_ildn (M := M_Lw_isOperated) (pc := 234) (k := 2) h234) ?_
  refine ac (s_callV (M := M_Lw_isOperated) (pc := 235) (tz_Lw rfl) h235 q_R_value wd1137 wd1138 wd1139 rfl (T := TX7) (N := 12) rfl) ?_
  refine ac (s_lc_ne (M := M_Lw_isOperated) (pc := 238) h238 h239 (by decide)) ?_
  refine ac (s_ild (M := M_Lw_isOperated) (pc := 242) h242) ?_
  refine ac (s_if_ne (M := M_Lw_isOperated) (pc := 244) h244 (by decide)) ?_
  refine ac (s_iconst (M := M_Lw_isOperated) (pc := 247) h247 rfl) ?_
  refine ac (s_goto (M := M_Lw_isOperated) (pc := 248) h248 (by decide)) ?_
  refine ac (s_iconst (M := M_Lw_isOperated) (pc := 251) h251 rfl) ?_
  refine ac (s_aldn (M := M_Lw_isOperated) (pc := 252) (k := 0) h252) ?_
  refine ac (s_ildn (M := M_Lw_isOperated) (pc := 253) (k := 2) h253) ?_
  refine ac (s_callV (M := M_Lw_isOperated) (pc := 254) (tz_Lw rfl) h254 q_R_number wd469 wd470 wd471 rfl (T := TX7) (N := 12) rfl) ?_
  refine ac (s_lld (M := M_Lw_isOperated) (pc := 257) h257) ?_
  refine ac (s_lc_ne (M := M_Lw_isOperated) (pc := 259) h259 h260 (by decide)) ?_
  refine ac (s_iconst (M := M_Lw_isOperated) (pc := 263) h263 rfl) ?_
  refine ac (s_goto (M := M_Lw_isOperated) (pc := 264) h264 (by decide)) ?_
  refine ac (s_iconst (M := M_Lw_isOperated) (pc := 267) h267 rfl) ?_
  refine ac (s_icmp_ne (M := M_Lw_isOperated) (pc := 268) h268 (by decide)) ?_
  refine ac (s_aldn (M := M_Lw_isOperated) (pc := 271) (k := 0) h271) ?_
  refine ac (s_iconst (M := M_Lw_isOperated) (pc := 272) h272 rfl) ?_
  refine ac (s_callV (M := M_Lw_isOperated) (pc := 273) (tz_Lw rfl) h273 q_R_account wd418 wd419 wd420 rfl (T := TX7) (N := 12) rfl) ?_
  refine ac (s_ild (M := M_Lw_isOperated) (pc := 276) h276) ?_
  refine ac (s_iconst (M := M_Lw_isOperated) (pc := 278) h278 rfl) ?_
  refine ac (s_iadd (M := M_Lw_isOperated) (pc := 279) h279) ?_
  refine ac (s_icmp_ne (M := M_Lw_isOperated) (pc := 280) h280 (by decide)) ?_
  refine ac (s_aldn (M := M_Lw_isOperated) (pc := 283) (k := 0) h283) ?_
  refine ac (s_bipush (M := M_Lw_isOperated) (pc := 284) h284 (by decide)) ?_
  refine ac (s_callV (M := M_Lw_isOperated) (pc := 286) (tz_Lw rfl) h286 q_R_account wd418 wd419 wd420 rfl (T := TX7) (N := 12) rfl) ?_
  refine ac (s_ild (M := M_Lw_isOperated) (pc := 289) h289) ?_
  refine ac (s_aldn (M := M_Lw_isOperated) (pc := 291) (k := 0) h291) ?_
  refine ac (s_ildn (M := M_Lw_isOperated) (pc := 292) (k := 2) h292) ?_
  refine ac (s_callV (M := M_Lw_isOperated) (pc := 293) (tz_Lw rfl) h293 q_R_isSound wd474 wd475 wd476 rfl (T := TX7) (N := 12) rfl) ?_
  refine ac (s_if_eq (M := M_Lw_isOperated) (pc := 296) h296 (by decide)) ?_
  refine ac (s_iconst (M := M_Lw_isOperated) (pc := 299) h299 rfl) ?_
  refine ac (s_goto (M := M_Lw_isOperated) (pc := 300) h300 (by decide)) ?_
  refine ac (s_iconst (M := M_Lw_isOperated) (pc := 303) h303 rfl) ?_
  refine ac (s_iadd (M := M_Lw_isOperated) (pc := 304) h304) ?_
  refine ac (s_icmp_ne (M := M_Lw_isOperated) (pc := 305) h305 (by decide)) ?_
  refine ac (s_aldn (M := M_Lw_isOperated) (pc := 308) (k := 0) h308) ?_
  refine ac (s_iconst (M := M_Lw_isOperated) (pc := 309) h309 rfl) ?_
  refine ac (s_callV (M := M_Lw_isOperated) (pc := 310) (tz_Lw rfl) h310 q_R_count wd322 wd323 wd324 rfl (T := TX7) (N := 12) rfl) ?_
  refine ac (s_if_eq (M := M_Lw_isOperated) (pc := 313) h313 (by decide)) ?_
  refine ac (s_aldn (M := M_Lw_isOperated) (pc := 316) (k := 0) h316) ?_
  refine ac (s_ildn (M := M_Lw_isOperated) (pc := 317) (k := 2) h317) ?_
  refine ac (s_callV (M := M_Lw_isOperated) (pc := 318) (tz_Lw rfl) h318 q_R_isSound wd474 wd475 wd476 rfl (T := TX7) (N := 12) rfl) ?_
  refine ac (s_if_eq (M := M_Lw_isOperated) (pc := 321) h321 (by decide)) ?_
  refine ac (s_iconst (M := M_Lw_isOperated) (pc := 324) h324 rfl) ?_
  refine ac (s_goto (M := M_Lw_isOperated) (pc := 325) h325 (by decide)) ?_
  refine ac (s_iconst (M := M_Lw_isOperated) (pc := 328) h328 rfl) ?_
  refine ac (s_zret (M := M_Lw_isOperated) (pc := 329) h329 rfl) ?_
  exact ac_nil
theorem e0_Lw_exact : decode method_10_code 0 = .ok (.iload_n 0, 1) ∧ decode method_10_code 1 = .ok (.ifCond .ne 9, 3) ∧ decode method_10_code 4 = .ok (.lload_n 1, 1) ∧ decode method_10_code 5 = .ok (.lload_n 3, 1) ∧ decode method_10_code 6 = .ok (.ladd, 1) ∧ decode method_10_code 7 = .ok (.goto 47, 3) ∧ decode method_10_code 10 = .ok (.iload_n 0, 1) ∧ decode method_10_code 11 = .ok (.iconst 1, 1) ∧ decode method_10_code 12 = .ok (.if_icmp .ne 9, 3) ∧ decode method_10_code 15 = .ok (.lload_n 1, 1) ∧ decode method_10_code 16 = .ok (.lload_n 3, 1) ∧ decode method_10_code 17 = .ok (.lsub, 1) := by decide +kernel
theorem e1_Lw_exact : decode method_10_code 18 = .ok (.goto 36, 3) ∧ decode method_10_code 21 = .ok (.iload_n 0, 1) ∧ decode method_10_code 22 = .ok (.iconst 2, 1) ∧ decode method_10_code 23 = .ok (.if_icmp .ne 9, 3) ∧ decode method_10_code 26 = .ok (.lload_n 1, 1) ∧ decode method_10_code 27 = .ok (.lload_n 3, 1) ∧ decode method_10_code 28 = .ok (.lmul, 1) ∧ decode method_10_code 29 = .ok (.goto 25, 3) ∧ decode method_10_code 32 = .ok (.iload_n 0, 1) ∧ decode method_10_code 33 = .ok (.iconst 3, 1) ∧ decode method_10_code 34 = .ok (.if_icmp .ne 11, 3) ∧ decode method_10_code 37 = .ok (.lload_n 1, 1) := by decide +kernel
theorem e2_Lw_exact : decode method_10_code 38 = .ok (.lload_n 3, 1) ∧ decode method_10_code 39 = .ok (.invokestatic 119, 3) ∧ decode method_10_code 42 = .ok (.goto 12, 3) ∧ decode method_10_code 45 = .ok (.lload_n 1, 1) ∧ decode method_10_code 46 = .ok (.lload_n 3, 1) ∧ decode method_10_code 47 = .ok (.lload_n 1, 1) ∧ decode method_10_code 48 = .ok (.lload_n 3, 1) ∧ decode method_10_code 49 = .ok (.invokestatic 119, 3) ∧ decode method_10_code 52 = .ok (.lmul, 1) ∧ decode method_10_code 53 = .ok (.lsub, 1) ∧ decode method_10_code 54 = .ok (.lreturn, 1) := by decide +kernel
def T_Lw_exact : TT := [(0, o_ild 0 1), (1, o_if_ne 10 4), (4, o_lld 1 5), (5, o_lld 3 6), (6, o_ladd 7), (7, o_goto 54), (10, o_ild 0 11), (11, o_push (.int (iI (1))) 12), (12, o_icmp_ne 21 15), (15, o_lld 1 16), (16, o_lld 3 17), (17, o_lsub 18), (18, o_goto 54), (21, o_ild 0 22), (22, o_push (.int (iI (2))) 23), (23, o_icmp_ne 32 26), (26, o_lld 1 27), (27, o_lld 3 28), (28, o_lmul 29), (29, o_goto 54), (32, o_ild 0 33), (33, o_push (.int (iI (3))) 34), (34, o_icmp_ne 45 37), (37, o_lld 1 38), (38, o_lld 3 39), (39, o_call M_Lw_floored 2 42), (42, o_goto 54), (45, o_lld 1 46), (46, o_lld 3 47), (47, o_lld 1 48), (48, o_lld 3 49), (49, o_call M_Lw_floored 2 52), (52, o_lmul 53), (53, o_lsub 54), (54, o_lret)]
theorem k_Lw_exact : ∀ x ∈ T_Lw_exact, SO M_Lw_exact x.1 x.2 := by
  obtain ⟨h0, h1, h4, h5, h6, h7, h10, h11, h12, h15, h16, h17⟩ := e0_Lw_exact
  obtain ⟨h18, h21, h22, h23, h26, h27, h28, h29, h32, h33, h34, h37⟩ := e1_Lw_exact
  obtain ⟨h38, h39, h42, h45, h46, h47, h48, h49, h52, h53, h54⟩ := e2_Lw_exact
  refine ac (s_ildn (M := M_Lw_exact) (pc := 0) (k := 0) h0) ?_
  refine ac (s_if_ne (M := M_Lw_exact) (pc := 1) h1 (by decide)) ?_
  refine ac (s_lldn (M := M_Lw_exact) (pc := 4) (k := 1) h4) ?_
  refine ac (s_lldn (M := M_Lw_exact) (pc := 5) (k := 3) h5) ?_
  refine ac (s_ladd (M := M_Lw_exact) (pc := 6) h6) ?_
  refine ac (s_goto (M := M_Lw_exact) (pc := 7) h7 (by decide)) ?_
  refine ac (s_ildn (M := M_Lw_exact) (pc := 10) (k := 0) h10) ?_
  refine ac (s_iconst (M := M_Lw_exact) (pc := 11) h11 rfl) ?_
  refine ac (s_icmp_ne (M := M_Lw_exact) (pc := 12) h12 (by decide)) ?_
  refine ac (s_lldn (M := M_Lw_exact) (pc := 15) (k := 1) h15) ?_
  refine ac (s_lldn (M := M_Lw_exact) (pc := 16) (k := 3) h16) ?_
  refine ac (s_lsub (M := M_Lw_exact) (pc := 17) h17) ?_
  refine ac (s_goto (M := M_Lw_exact) (pc := 18) h18 (by decide)) ?_
  refine ac (s_ildn (M := M_Lw_exact) (pc := 21) (k := 0) h21) ?_
  refine ac (s_iconst (M := M_Lw_exact) (pc := 22) h22 rfl) ?_
  refine ac (s_icmp_ne (M := M_Lw_exact) (pc := 23) h23 (by decide)) ?_
  refine ac (s_lldn (M := M_Lw_exact) (pc := 26) (k := 1) h26) ?_
  refine ac (s_lldn (M := M_Lw_exact) (pc := 27) (k := 3) h27) ?_
  refine ac (s_lmul (M := M_Lw_exact) (pc := 28) h28) ?_
  refine ac (s_goto (M := M_Lw_exact) (pc := 29) h29 (by decide)) ?_
  refine ac (s_ildn (M := M_Lw_exact) (pc := 32) (k := 0) h32) ?_
  refine ac (s_iconst (M := M_Lw_exact) (pc := 33) h33 rfl) ?_
  refine ac (s_icmp_ne (M := M_Lw_exact) (pc := 34) h34 (by decide)) ?_
  refine ac (s_lldn (M := M_Lw_exact) (pc := 37) (k := 1) h37) ?_
  refine ac (s_lldn (M := M_Lw_exact) (pc := 38) (k := 3) h38) ?_
  refine ac (s_callS (M := M_Lw_exact) (pc := 39) (tz_Lw rfl) h39 q_Lw_floored wd1211 wd1212) ?_
  refine ac (s_goto (M := M_Lw_exact) (pc := 42) h42 (by decide)) ?_
  refine ac (s_lldn (M := M_Lw_exact) (pc := 45) (k := 1) h45) ?_
  refine ac (s_lldn (M := M_Lw_exact) (pc := 46) (k := 3) h46) ?_
  refine ac (s_lldn (M := M_Lw_exact) (pc := 47) (k := 1) h47) ?_
  refine ac (s_lldn (M := M_Lw_exact) (pc := 48) (k := 3) h48) ?_
  refine ac (s_callS (M := M_Lw_exact) (pc := 49) (tz_Lw rfl) h49 q_Lw_floored wd1211 wd1212) ?_
  refine ac (s_lmul (M := M_Lw_exact) (pc := 52) h52) ?_
  refine ac (s_lsub (M := M_Lw_exact) (pc := 53) h53) ?_
  refine ac (s_lret (M := M_Lw_exact) (pc := 54) h54 rfl) ?_
  exact ac_nil
theorem e0_Lw_floored : decode method_9_code 0 = .ok (.lload_n 0, 1) ∧ decode method_9_code 1 = .ok (.lload_n 2, 1) ∧ decode method_9_code 2 = .ok (.invokestatic 113, 3) ∧ decode method_9_code 5 = .ok (.lreturn, 1) := by decide +kernel
def T_Lw_floored : TT := [(0, o_lld 0 1), (1, o_lld 2 2), (2, o_call M_jMath_floorDiv 2 5), (5, o_lret)]
theorem k_Lw_floored : ∀ x ∈ T_Lw_floored, SO M_Lw_floored x.1 x.2 := by
  obtain ⟨h0, h1, h2, h5⟩ := e0_Lw_floored
  refine ac (s_lldn (M := M_Lw_floored) (pc := 0) (k := 0) h0) ?_
  refine ac (s_lldn (M := M_Lw_floored) (pc := 1) (k := 2) h1) ?_
  refine ac (s_callS (M := M_Lw_floored) (pc := 2) (tz_Lw rfl) h2 q_jMath_floorDiv wd1214 wd270) ?_
  refine ac (s_lret (M := M_Lw_floored) (pc := 5) h5 rfl) ?_
  exact ac_nil
theorem e0_Lw_isScaled : decode method_12_code 0 = .ok (.aload_n 0, 1) ∧ decode method_12_code 1 = .ok (.iload_n 1, 1) ∧ decode method_12_code 2 = .ok (.invokevirtual 104, 3) ∧ decode method_12_code 5 = .ok (.lstore_n 3, 1) ∧ decode method_12_code 6 = .ok (.aload_n 0, 1) ∧ decode method_12_code 7 = .ok (.iconst 2, 1) ∧ decode method_12_code 8 = .ok (.invokevirtual 71, 3) ∧ decode method_12_code 11 = .ok (.istore 5, 2) ∧ decode method_12_code 13 = .ok (.aload_n 0, 1) ∧ decode method_12_code 14 = .ok (.iload_n 1, 1) ∧ decode method_12_code 15 = .ok (.iload_n 2, 1) ∧ decode method_12_code 16 = .ok (.invokevirtual 143, 3) := by decide +kernel
theorem e1_Lw_isScaled : decode method_12_code 19 = .ok (.istore 6, 2) ∧ decode method_12_code 21 = .ok (.lload_n 3, 1) ∧ decode method_12_code 22 = .ok (.aload_n 0, 1) ∧ decode method_12_code 23 = .ok (.iload_n 2, 1) ∧ decode method_12_code 24 = .ok (.invokevirtual 75, 3) ∧ decode method_12_code 27 = .ok (.i2l, 1) ∧ decode method_12_code 28 = .ok (.invokestatic 119, 3) ∧ decode method_12_code 31 = .ok (.lstore 7, 2) ∧ decode method_12_code 33 = .ok (.lload 7, 2) ∧ decode method_12_code 35 = .ok (.aload_n 0, 1) ∧ decode method_12_code 36 = .ok (.iconst 2, 1) ∧ decode method_12_code 37 = .ok (.invokevirtual 78, 3) := by decide +kernel
theorem e2_Lw_isScaled : decode method_12_code 40 = .ok (.lneg, 1) ∧ decode method_12_code 41 = .ok (.lcmp, 1) ∧ decode method_12_code 42 = .ok (.ifCond .lt 18, 3) ∧ decode method_12_code 45 = .ok (.lload 7, 2) ∧ decode method_12_code 47 = .ok (.aload_n 0, 1) ∧ decode method_12_code 48 = .ok (.iconst 2, 1) ∧ decode method_12_code 49 = .ok (.invokevirtual 78, 3) ∧ decode method_12_code 52 = .ok (.lcmp, 1) ∧ decode method_12_code 53 = .ok (.ifCond .gt 7, 3) ∧ decode method_12_code 56 = .ok (.iconst 1, 1) ∧ decode method_12_code 57 = .ok (.goto 4, 3) ∧ decode method_12_code 60 = .ok (.iconst 0, 1) := by decide +kernel
theorem e3_Lw_isScaled : decode method_12_code 61 = .ok (.istore 9, 2) ∧ decode method_12_code 63 = .ok (.iload 5, 2) ∧ decode method_12_code 65 = .ok (.iconst 1, 1) ∧ decode method_12_code 66 = .ok (.if_icmp .ne 32, 3) ∧ decode method_12_code 69 = .ok (.iload 9, 2) ∧ decode method_12_code 71 = .ok (.ifCond .ne 27, 3) ∧ decode method_12_code 74 = .ok (.iload 6, 2) ∧ decode method_12_code 76 = .ok (.iconst 2, 1) ∧ decode method_12_code 77 = .ok (.if_icmp .ne 17, 3) ∧ decode method_12_code 80 = .ok (.aload_n 0, 1) ∧ decode method_12_code 81 = .ok (.iload_n 1, 1) ∧ decode method_12_code 82 = .ok (.invokevirtual 104, 3) := by decide +kernel
theorem e4_Lw_isScaled : decode method_12_code 85 = .ok (.lload_n 3, 1) ∧ decode method_12_code 86 = .ok (.lcmp, 1) ∧ decode method_12_code 87 = .ok (.ifCond .ne 7, 3) ∧ decode method_12_code 90 = .ok (.iconst 1, 1) ∧ decode method_12_code 91 = .ok (.goto 38, 3) ∧ decode method_12_code 94 = .ok (.iconst 0, 1) ∧ decode method_12_code 95 = .ok (.goto 34, 3) ∧ decode method_12_code 98 = .ok (.iload 6, 2) ∧ decode method_12_code 100 = .ok (.ifCond .ne 28, 3) ∧ decode method_12_code 103 = .ok (.aload_n 0, 1) ∧ decode method_12_code 104 = .ok (.iload_n 1, 1) ∧ decode method_12_code 105 = .ok (.invokevirtual 104, 3) := by decide +kernel
theorem e5_Lw_isScaled : decode method_12_code 108 = .ok (.lload 7, 2) ∧ decode method_12_code 110 = .ok (.lcmp, 1) ∧ decode method_12_code 111 = .ok (.ifCond .ne 17, 3) ∧ decode method_12_code 114 = .ok (.aload_n 0, 1) ∧ decode method_12_code 115 = .ok (.iload_n 1, 1) ∧ decode method_12_code 116 = .ok (.invokevirtual 107, 3) ∧ decode method_12_code 119 = .ok (.iload 9, 2) ∧ decode method_12_code 121 = .ok (.if_icmp .ne 7, 3) ∧ decode method_12_code 124 = .ok (.iconst 1, 1) ∧ decode method_12_code 125 = .ok (.goto 4, 3) ∧ decode method_12_code 128 = .ok (.iconst 0, 1) ∧ decode method_12_code 129 = .ok (.ireturn, 1) := by decide +kernel
def T_Lw_isScaled : TT := [(0, o_ald 0 1), (1, o_ild 1 2), (2, o_callV M_R_number 0 2 5), (5, o_lst 3 6), (6, o_ald 0 7), (7, o_push (.int (iI (2))) 8), (8, o_callV M_R_count 0 2 11), (11, o_ist 5 13), (13, o_ald 0 14), (14, o_ild 1 15), (15, o_ild 2 16), (16, o_callV M_R_scale 0 3 19), (19, o_ist 6 21), (21, o_lld 3 22), (22, o_ald 0 23), (23, o_ild 2 24), (24, o_callV M_R_modulus 0 2 27), (27, o_i2l 28), (28, o_call M_Lw_floored 2 31), (31, o_lst 7 33), (33, o_lld 7 35), (35, o_ald 0 36), (36, o_push (.int (iI (2))) 37), (37, o_callV M_R_bound 0 2 40), (40, o_lneg 41), (41, o_lc_lt 60 45), (45, o_lld 7 47), (47, o_ald 0 48), (48, o_push (.int (iI (2))) 49), (49, o_callV M_R_bound 0 2 52), (52, o_lc_gt 60 56), (56, o_push (.int (iI (1))) 57), (57, o_goto 61), (60, o_push (.int (iI (0))) 61), (61, o_ist 9 63), (63, o_ild 5 65), (65, o_push (.int (iI (1))) 66), (66, o_icmp_ne 98 69), (69, o_ild 9 71), (71, o_if_ne 98 74), (74, o_ild 6 76), (76, o_push (.int (iI (2))) 77), (77, o_icmp_ne 94 80), (80, o_ald 0 81), (81, o_ild 1 82), (82, o_callV M_R_number 0 2 85), (85, o_lld 3 86), (86, o_lc_ne 94 90), (90, o_push (.int (iI (1))) 91), (91, o_goto 129), (94, o_push (.int (iI (0))) 95), (95, o_goto 129), (98, o_ild 6 100), (100, o_if_ne 128 103), (103, o_ald 0 104), (104, o_ild 1 105), (105, o_callV M_R_number 0 2 108), (108, o_lld 7 110), (110, o_lc_ne 128 114), (114, o_ald 0 115), (115, o_ild 1 116), (116, o_callV M_R_isSound 0 2 119), (119, o_ild 9 121), (121, o_icmp_ne 128 124), (124, o_push (.int (iI (1))) 125), (125, o_goto 129), (128, o_push (.int (iI (0))) 129), (129, o_zret)]
theorem k_Lw_isScaled : ∀ x ∈ T_Lw_isScaled, SO M_Lw_isScaled x.1 x.2 := by
  obtain ⟨h0, h1, h2, h5, h6, h7, h8, h11, h13, h14, h15, h16⟩ := e0_Lw_isScaled
  obtain ⟨h19, h21, h22, h23, h24, h27, h28, h31, h33, h35, h36, h37⟩ := e1_Lw_isScaled
  obtain ⟨h40, h41, h42, h45, h47, h48, h49, h52, h53, h56, h57, h60⟩ := e2_Lw_isScaled
  obtain ⟨h61, h63, h65, h66, h69, h71, h74, h76, h77, h80, h81, h82⟩ := e3_Lw_isScaled
  obtain ⟨h85, h86, h87, h90, h91, h94, h95, h98, h100, h103, h104, h105⟩ := e4_Lw_isScaled
  obtain ⟨h108, h110, h111, h114, h115, h116, h119, h121, h124, h125, h128, h129⟩ := e5_Lw_isScaled
  refine ac (s_aldn (M := M_Lw_isScaled) (pc := 0) (k := 0) h0) ?_
  refine ac (s_ildn (M := M_Lw_isScaled) (pc := 1) (k := 1) h1) ?_
  refine ac (s_callV (M := M_Lw_isScaled) (pc := 2) (tz_Lw rfl) h2 q_R_number wd469 wd470 wd471 rfl (T := TX7) (N := 12) rfl) ?_
  refine ac (s_lstn (M := M_Lw_isScaled) (pc := 5) (k := 3) h5 (by decide)) ?_
  refine ac (s_aldn (M := M_Lw_isScaled) (pc := 6) (k := 0) h6) ?_
  refine ac (s_iconst (M := M_Lw_isScaled) (pc := 7) h7 rfl) ?_
  refine ac (s_callV (M := M_Lw_isScaled) (pc := 8) (tz_Lw rfl) h8 q_R_count wd322 wd323 wd324 rfl (T := TX7) (N := 12) rfl) ?_
  refine ac (s_ist (M := M_Lw_isScaled) (pc := 11) h11 (by decide)) ?_
  refine ac (s_aldn (M := M_Lw_isScaled) (pc := 13) (k := 0) h13) ?_
  refine ac (s_ildn (M := M_Lw_isScaled) (pc := 14) (k := 1) h14) ?_
  refine ac (s_ildn (M := M_Lw_isScaled) (pc := 15) (k := 2) h15) ?_
  refine ac (s_callV (M := M_Lw_isScaled) (pc := 16) (tz_Lw rfl) h16 q_R_scale wd1228 wd1229 wd1230 rfl (T := TX7) (N := 12) rfl) ?_
  refine ac (s_ist (M := M_Lw_isScaled) (pc := 19) h19 (by decide)) ?_
  refine ac (s_lldn (M := M_Lw_isScaled) (pc := 21) (k := 3) h21) ?_
  refine ac (s_aldn (M := M_Lw_isScaled) (pc := 22) (k := 0) h22) ?_
  refine ac (s_ildn (M := M_Lw_isScaled) (pc := 23) (k := 2) h23) ?_
  refine ac (s_callV (M := M_Lw_isScaled) (pc := 24) (tz_Lw rfl) h24 q_R_modulus wd431 wd432 wd433 rfl (T := TX7) (N := 12) rfl) ?_
  refine ac (s_i2l (M := M_Lw_isScaled) (pc := 27) h27) ?_
  refine ac (s_callS (M := M_Lw_isScaled) (pc := 28) (tz_Lw rfl) h28 q_Lw_floored wd1211 wd1212) ?_
  refine ac (s_lst (M := M_Lw_isScaled) (pc := 31) h31 (by decide)) ?_
  refine ac (s_lld (M := M_Lw_isScaled) (pc := 33) h33) ?_
  refine ac (s_aldn (M := M_Lw_isScaled) (pc := 35) (k := 0) h35) ?_
  refine ac (s_iconst (M := M_Lw_isScaled) (pc := 36) h36 rfl) ?_
  refine ac (s_callV (M := M_Lw_isScaled) (pc := 37) (tz_Lw rfl) h37 q_R_bound wd426 wd427 wd428 rfl (T := TX7) (N := 12) rfl) ?_
  refine ac (s_lneg (M := M_Lw_isScaled) (pc := 40) h40) ?_
  refine ac (s_lc_lt (M := M_Lw_isScaled) (pc := 41) h41 h42 (by decide)) ?_
  refine ac (s_lld (M := M_Lw_isScaled) (pc := 45) h45) ?_
  refine ac (s_aldn (M := M_Lw_isScaled) (pc := 47) (k := 0) h47) ?_
  refine ac (s_iconst (M := M_Lw_isScaled) (pc := 48) h48 rfl) ?_
  refine ac (s_callV (M := M_Lw_isScaled) (pc := 49) (tz_Lw rfl) h49 q_R_bound wd426 wd427 wd428 rfl (T := TX7) (N := 12) rfl) ?_
  refine ac (s_lc_gt (M := M_Lw_isScaled) (pc := 52) h52 h53 (by decide)) ?_
  refine ac (s_iconst (M := M_Lw_isScaled) (pc := 56) h56 rfl) ?_
  refine ac (s_goto (M := M_Lw_isScaled) (pc := 57) h57 (by decide)) ?_
  refine ac (s_iconst (M := M_Lw_isScaled) (pc := 60) h60 rfl) ?_
  refine ac (s_ist (M := M_Lw_isScaled) (pc := 61) h61 (by decide)) ?_
  refine ac (s_ild (M := M_Lw_isScaled) (pc := 63) h63) ?_
  refine ac (s_iconst (M := M_Lw_isScaled) (pc := 65) h65 rfl) ?_
  refine ac (s_icmp_ne (M := M_Lw_isScaled) (pc := 66) h66 (by decide)) ?_
  refine ac (s_ild (M := M_Lw_isScaled) (pc := 69) h69) ?_
  refine ac (s_if_ne (M := M_Lw_isScaled) (pc := 71) h71 (by decide)) ?_
  refine ac (s_ild (M := M_Lw_isScaled) (pc := 74) h74) ?_
  refine ac (s_iconst (M := M_Lw_isScaled) (pc := 76) h76 rfl) ?_
  refine ac (s_icmp_ne (M := M_Lw_isScaled) (pc := 77) h77 (by decide)) ?_
  refine ac (s_aldn (M := M_Lw_isScaled) (pc := 80) (k := 0) h80) ?_
  refine ac (s_ildn (M := M_Lw_isScaled) (pc := 81) (k := 1) h81) ?_
  refine ac (s_callV (M := M_Lw_isScaled) (pc := 82) (tz_Lw rfl) h82 q_R_number wd469 wd470 wd471 rfl (T := TX7) (N := 12) rfl) ?_
  refine ac (s_lldn (M := M_Lw_isScaled) (pc := 85) (k := 3) h85) ?_
  refine ac (s_lc_ne (M := M_Lw_isScaled) (pc := 86) h86 h87 (by decide)) ?_
  refine ac (s_iconst (M := M_Lw_isScaled) (pc := 90) h90 rfl) ?_
  refine ac (s_goto (M := M_Lw_isScaled) (pc := 91) h91 (by decide)) ?_
  refine ac (s_iconst (M := M_Lw_isScaled) (pc := 94) h94 rfl) ?_
  refine ac (s_goto (M := M_Lw_isScaled) (pc := 95) h95 (by decide)) ?_
  refine ac (s_ild (M := M_Lw_isScaled) (pc := 98) h98) ?_
  refine ac (s_if_ne (M := M_Lw_isScaled) (pc := 100) h100 (by decide)) ?_
  refine ac (s_aldn (M := M_Lw_isScaled) (pc := 103) (k := 0) h103) ?_
  refine ac (s_ildn (M := M_Lw_isScaled) (pc := 104) (k := 1) h104) ?_
  refine ac (s_callV (M := M_Lw_isScaled) (pc := 105) (tz_Lw rfl) h105 q_R_number wd469 wd470 wd471 rfl (T := TX7) (N := 12) rfl) ?_
  refine ac (s_lld (M := M_Lw_isScaled) (pc := 108) h108) ?_
  refine ac (s_lc_ne (M := M_Lw_isScaled) (pc := 110) h110 h111 (by decide)) ?_
  refine ac (s_aldn (M := M_Lw_isScaled) (pc := 114) (k := 0) h114) ?_
  refine ac (s_ildn (M := M_Lw_isScaled) (pc := 115) (k := 1) h115) ?_
  refine ac (s_callV (M := M_Lw_isScaled) (pc := 116) (tz_Lw rfl) h116 q_R_isSound wd474 wd475 wd476 rfl (T := TX7) (N := 12) rfl) ?_
  refine ac (s_ild (M := M_Lw_isScaled) (pc := 119) h119) ?_
  refine ac (s_icmp_ne (M := M_Lw_isScaled) (pc := 121) h121 (by decide)) ?_
  refine ac (s_iconst (M := M_Lw_isScaled) (pc := 124) h124 rfl) ?_
  refine ac (s_goto (M := M_Lw_isScaled) (pc := 125) h125 (by decide)) ?_
  refine ac (s_iconst (M := M_Lw_isScaled) (pc := 128) h128 rfl) ?_
  refine ac (s_zret (M := M_Lw_isScaled) (pc := 129) h129 rfl) ?_
  exact ac_nil
theorem e0_Lw_sum : decode method_13_code 0 = .ok (.lconst 0, 1) ∧ decode method_13_code 1 = .ok (.lstore_n 1, 1) ∧ decode method_13_code 2 = .ok (.iconst 0, 1) ∧ decode method_13_code 3 = .ok (.istore_n 3, 1) ∧ decode method_13_code 4 = .ok (.iload_n 3, 1) ∧ decode method_13_code 5 = .ok (.bipush 8, 2) ∧ decode method_13_code 7 = .ok (.if_icmp .ge 21, 3) ∧ decode method_13_code 10 = .ok (.ldc2_w 146, 3) ∧ decode method_13_code 13 = .ok (.lload_n 1, 1) ∧ decode method_13_code 14 = .ok (.lmul, 1) ∧ decode method_13_code 15 = .ok (.aload_n 0, 1) ∧ decode method_13_code 16 = .ok (.iload_n 3, 1) := by decide +kernel
theorem e1_Lw_sum : decode method_13_code 17 = .ok (.invokevirtual 104, 3) ∧ decode method_13_code 20 = .ok (.ladd, 1) ∧ decode method_13_code 21 = .ok (.lstore_n 1, 1) ∧ decode method_13_code 22 = .ok (.iinc 3 1, 3) ∧ decode method_13_code 25 = .ok (.goto (-21), 3) ∧ decode method_13_code 28 = .ok (.lload_n 1, 1) ∧ decode method_13_code 29 = .ok (.lreturn, 1) := by decide +kernel
def T_Lw_sum : TT := [(0, o_push (.long (lI 0)) 1), (1, o_lst 1 2), (2, o_push (.int (iI (0))) 3), (3, o_ist 3 4), (4, o_ild 3 5), (5, o_push (.int (iI (8))) 7), (7, o_icmp_ge 28 10), (10, o_push (.long (lI (31))) 13), (13, o_lld 1 14), (14, o_lmul 15), (15, o_ald 0 16), (16, o_ild 3 17), (17, o_callV M_R_number 0 2 20), (20, o_ladd 21), (21, o_lst 1 22), (22, o_iinc 3 (iI (1)) 25), (25, o_goto 4), (28, o_lld 1 29), (29, o_lret)]
theorem k_Lw_sum : ∀ x ∈ T_Lw_sum, SO M_Lw_sum x.1 x.2 := by
  obtain ⟨h0, h1, h2, h3, h4, h5, h7, h10, h13, h14, h15, h16⟩ := e0_Lw_sum
  obtain ⟨h17, h20, h21, h22, h25, h28, h29⟩ := e1_Lw_sum
  refine ac (s_lconst (M := M_Lw_sum) (pc := 0) h0 (by decide)) ?_
  refine ac (s_lstn (M := M_Lw_sum) (pc := 1) (k := 1) h1 (by decide)) ?_
  refine ac (s_iconst (M := M_Lw_sum) (pc := 2) h2 rfl) ?_
  refine ac (s_istn (M := M_Lw_sum) (pc := 3) (k := 3) h3 (by decide)) ?_
  refine ac (s_ildn (M := M_Lw_sum) (pc := 4) (k := 3) h4) ?_
  refine ac (s_bipush (M := M_Lw_sum) (pc := 5) h5 (by decide)) ?_
  refine ac (s_icmp_ge (M := M_Lw_sum) (pc := 7) h7 (by decide)) ?_
  refine ac (s_ldc2 (M := M_Lw_sum) (pc := 10) h10 wd1239) ?_
  refine ac (s_lldn (M := M_Lw_sum) (pc := 13) (k := 1) h13) ?_
  refine ac (s_lmul (M := M_Lw_sum) (pc := 14) h14) ?_
  refine ac (s_aldn (M := M_Lw_sum) (pc := 15) (k := 0) h15) ?_
  refine ac (s_ildn (M := M_Lw_sum) (pc := 16) (k := 3) h16) ?_
  refine ac (s_callV (M := M_Lw_sum) (pc := 17) (tz_Lw rfl) h17 q_R_number wd469 wd470 wd471 rfl (T := TX7) (N := 12) rfl) ?_
  refine ac (s_ladd (M := M_Lw_sum) (pc := 20) h20) ?_
  refine ac (s_lstn (M := M_Lw_sum) (pc := 21) (k := 1) h21 (by decide)) ?_
  refine ac (s_iinc (M := M_Lw_sum) (pc := 22) h22 rfl (by decide)) ?_
  refine ac (s_goto (M := M_Lw_sum) (pc := 25) h25 (by decide)) ?_
  refine ac (s_lldn (M := M_Lw_sum) (pc := 28) (k := 1) h28) ?_
  refine ac (s_lret (M := M_Lw_sum) (pc := 29) h29 rfl) ?_
  exact ac_nil
theorem e0_Lw_isGrown : decode method_14_code 0 = .ok (.aload_n 0, 1) ∧ decode method_14_code 1 = .ok (.invokevirtual 148, 3) ∧ decode method_14_code 4 = .ok (.istore_n 1, 1) ∧ decode method_14_code 5 = .ok (.iload_n 1, 1) ∧ decode method_14_code 6 = .ok (.iconst (-1), 1) ∧ decode method_14_code 7 = .ok (.if_icmp .ne 5, 3) ∧ decode method_14_code 10 = .ok (.iconst 1, 1) ∧ decode method_14_code 11 = .ok (.ireturn, 1) ∧ decode method_14_code 12 = .ok (.aload_n 0, 1) ∧ decode method_14_code 13 = .ok (.invokestatic 151, 3) ∧ decode method_14_code 16 = .ok (.lstore_n 2, 1) ∧ decode method_14_code 17 = .ok (.aload_n 0, 1) := by decide +kernel
theorem e1_Lw_isGrown : decode method_14_code 18 = .ok (.iconst 0, 1) ∧ decode method_14_code 19 = .ok (.invokevirtual 71, 3) ∧ decode method_14_code 22 = .ok (.istore 4, 2) ∧ decode method_14_code 24 = .ok (.iload 4, 2) ∧ decode method_14_code 26 = .ok (.aload_n 0, 1) ∧ decode method_14_code 27 = .ok (.iconst 1, 1) ∧ decode method_14_code 28 = .ok (.invokevirtual 71, 3) ∧ decode method_14_code 31 = .ok (.isub, 1) ∧ decode method_14_code 32 = .ok (.istore 5, 2) ∧ decode method_14_code 34 = .ok (.aload_n 0, 1) ∧ decode method_14_code 35 = .ok (.iload_n 1, 1) ∧ decode method_14_code 36 = .ok (.invokevirtual 155, 3) := by decide +kernel
theorem e2_Lw_isGrown : decode method_14_code 39 = .ok (.ifCond .ne 50, 3) ∧ decode method_14_code 42 = .ok (.aload_n 0, 1) ∧ decode method_14_code 43 = .ok (.invokestatic 151, 3) ∧ decode method_14_code 46 = .ok (.lload_n 2, 1) ∧ decode method_14_code 47 = .ok (.lcmp, 1) ∧ decode method_14_code 48 = .ok (.ifCond .ne 41, 3) ∧ decode method_14_code 51 = .ok (.aload_n 0, 1) ∧ decode method_14_code 52 = .ok (.iload 5, 2) ∧ decode method_14_code 54 = .ok (.invokevirtual 75, 3) ∧ decode method_14_code 57 = .ok (.iload_n 1, 1) ∧ decode method_14_code 58 = .ok (.if_icmp .ne 31, 3) ∧ decode method_14_code 61 = .ok (.aload_n 0, 1) := by decide +kernel
theorem e3_Lw_isGrown : decode method_14_code 62 = .ok (.iconst 0, 1) ∧ decode method_14_code 63 = .ok (.invokevirtual 71, 3) ∧ decode method_14_code 66 = .ok (.iload 4, 2) ∧ decode method_14_code 68 = .ok (.iconst 1, 1) ∧ decode method_14_code 69 = .ok (.iadd, 1) ∧ decode method_14_code 70 = .ok (.if_icmp .ne 19, 3) ∧ decode method_14_code 73 = .ok (.aload_n 0, 1) ∧ decode method_14_code 74 = .ok (.invokestatic 158, 3) ∧ decode method_14_code 77 = .ok (.ifCond .eq 12, 3) ∧ decode method_14_code 80 = .ok (.aload_n 0, 1) ∧ decode method_14_code 81 = .ok (.invokevirtual 162, 3) ∧ decode method_14_code 84 = .ok (.lconst 0, 1) := by decide +kernel
theorem e4_Lw_isGrown : decode method_14_code 85 = .ok (.lcmp, 1) ∧ decode method_14_code 86 = .ok (.ifCond .eq 5, 3) ∧ decode method_14_code 89 = .ok (.iconst 0, 1) ∧ decode method_14_code 90 = .ok (.ireturn, 1) ∧ decode method_14_code 91 = .ok (.aload_n 0, 1) ∧ decode method_14_code 92 = .ok (.invokevirtual 166, 3) ∧ decode method_14_code 95 = .ok (.iload 5, 2) ∧ decode method_14_code 97 = .ok (.ishr, 1) ∧ decode method_14_code 98 = .ok (.iconst 1, 1) ∧ decode method_14_code 99 = .ok (.iand, 1) ∧ decode method_14_code 100 = .ok (.iconst 1, 1) ∧ decode method_14_code 101 = .ok (.if_icmp .ne 42, 3) := by decide +kernel
theorem e5_Lw_isGrown : decode method_14_code 104 = .ok (.aload_n 0, 1) ∧ decode method_14_code 105 = .ok (.iload 5, 2) ∧ decode method_14_code 107 = .ok (.invokevirtual 169, 3) ∧ decode method_14_code 110 = .ok (.ifCond .ne 33, 3) ∧ decode method_14_code 113 = .ok (.aload_n 0, 1) ∧ decode method_14_code 114 = .ok (.invokestatic 151, 3) ∧ decode method_14_code 117 = .ok (.lload_n 2, 1) ∧ decode method_14_code 118 = .ok (.lcmp, 1) ∧ decode method_14_code 119 = .ok (.ifCond .ne 24, 3) ∧ decode method_14_code 122 = .ok (.aload_n 0, 1) ∧ decode method_14_code 123 = .ok (.iconst 0, 1) ∧ decode method_14_code 124 = .ok (.invokevirtual 71, 3) := by decide +kernel
theorem e6_Lw_isGrown : decode method_14_code 127 = .ok (.iload 4, 2) ∧ decode method_14_code 129 = .ok (.if_icmp .ne 14, 3) ∧ decode method_14_code 132 = .ok (.aload_n 0, 1) ∧ decode method_14_code 133 = .ok (.invokestatic 158, 3) ∧ decode method_14_code 136 = .ok (.ifCond .eq 7, 3) ∧ decode method_14_code 139 = .ok (.iconst 1, 1) ∧ decode method_14_code 140 = .ok (.goto 4, 3) ∧ decode method_14_code 143 = .ok (.iconst 0, 1) ∧ decode method_14_code 144 = .ok (.ireturn, 1) := by decide +kernel
def T_Lw_isGrown : TT := [(0, o_ald 0 1), (1, o_callV M_R_nextModulus 0 1 4), (4, o_ist 1 5), (5, o_ild 1 6), (6, o_push (.int (iI (-1))) 7), (7, o_icmp_ne 12 10), (10, o_push (.int (iI (1))) 11), (11, o_zret), (12, o_ald 0 13), (13, o_call M_Lw_sum 1 16), (16, o_lst 2 17), (17, o_ald 0 18), (18, o_push (.int (iI (0))) 19), (19, o_callV M_R_count 0 2 22), (22, o_ist 4 24), (24, o_ild 4 26), (26, o_ald 0 27), (27, o_push (.int (iI (1))) 28), (28, o_callV M_R_count 0 2 31), (31, o_isub 32), (32, o_ist 5 34), (34, o_ald 0 35), (35, o_ild 1 36), (36, o_callV M_R_grow 0 2 39), (39, o_if_ne 89 42), (42, o_ald 0 43), (43, o_call M_Lw_sum 1 46), (46, o_lld 2 47), (47, o_lc_ne 89 51), (51, o_ald 0 52), (52, o_ild 5 54), (54, o_callV M_R_modulus 0 2 57), (57, o_ild 1 58), (58, o_icmp_ne 89 61), (61, o_ald 0 62), (62, o_push (.int (iI (0))) 63), (63, o_callV M_R_count 0 2 66), (66, o_ild 4 68), (68, o_push (.int (iI (1))) 69), (69, o_iadd 70), (70, o_icmp_ne 89 73), (73, o_ald 0 74), (74, o_call M_Lw_isBounded 1 77), (77, o_if_eq 89 80), (80, o_ald 0 81), (81, o_callV M_R_gap 0 1 84), (84, o_push (.long (lI 0)) 85), (85, o_lc_eq 91 89), (89, o_push (.int (iI (0))) 90), (90, o_zret), (91, o_ald 0 92), (92, o_callV M_R_spare 0 1 95), (95, o_ild 5 97), (97, o_ishr 98), (98, o_push (.int (iI (1))) 99), (99, o_iand 100), (100, o_push (.int (iI (1))) 101), (101, o_icmp_ne 143 104), (104, o_ald 0 105), (105, o_ild 5 107), (107, o_callV M_R_drop 0 2 110), (110, o_if_ne 143 113), (113, o_ald 0 114), (114, o_call M_Lw_sum 1 117), (117, o_lld 2 118), (118, o_lc_ne 143 122), (122, o_ald 0 123), (123, o_push (.int (iI (0))) 124), (124, o_callV M_R_count 0 2 127), (127, o_ild 4 129), (129, o_icmp_ne 143 132), (132, o_ald 0 133), (133, o_call M_Lw_isBounded 1 136), (136, o_if_eq 143 139), (139, o_push (.int (iI (1))) 140), (140, o_goto 144), (143, o_push (.int (iI (0))) 144), (144, o_zret)]
theorem k_Lw_isGrown : ∀ x ∈ T_Lw_isGrown, SO M_Lw_isGrown x.1 x.2 := by
  obtain ⟨h0, h1, h4, h5, h6, h7, h10, h11, h12, h13, h16, h17⟩ := e0_Lw_isGrown
  obtain ⟨h18, h19, h22, h24, h26, h27, h28, h31, h32, h34, h35, h36⟩ := e1_Lw_isGrown
  obtain ⟨h39, h42, h43, h46, h47, h48, h51, h52, h54, h57, h58, h61⟩ := e2_Lw_isGrown
  obtain ⟨h62, h63, h66, h68, h69, h70, h73, h74, h77, h80, h81, h84⟩ := e3_Lw_isGrown
  obtain ⟨h85, h86, h89, h90, h91, h92, h95, h97, h98, h99, h100, h101⟩ := e4_Lw_isGrown
  obtain ⟨h104, h105, h107, h110, h113, h114, h117, h118, h119, h122, h123, h124⟩ := e5_Lw_isGrown
  obtain ⟨h127, h129, h132, h133, h136, h139, h140, h143, h144⟩ := e6_Lw_isGrown
  refine ac (s_aldn (M := M_Lw_isGrown) (pc := 0) (k := 0) h0) ?_
  refine ac (s_callV (M := M_Lw_isGrown) (pc := 1) (tz_Lw rfl) h1 q_R_nextModulus wd1243 wd1244 wd1245 rfl (T := TX7) (N := 12) rfl) ?_
  refine ac (s_istn (M := M_Lw_isGrown) (pc := 4) (k := 1) h4 (by decide)) ?_
  refine ac (s_ildn (M := M_Lw_isGrown) (pc := 5) (k := 1) h5) ?_
  refine ac (s_iconst (M := M_Lw_isGrown) (pc := 6) h6 rfl) ?_
  refine ac (s_icmp_ne (M := M_Lw_isGrown) (pc := 7) h7 (by decide)) ?_
  refine ac (s_iconst (M := M_Lw_isGrown) (pc := 10) h10 rfl) ?_
  refine ac (s_zret (M := M_Lw_isGrown) (pc := 11) h11 rfl) ?_
  refine ac (s_aldn (M := M_Lw_isGrown) (pc := 12) (k := 0) h12) ?_
  refine ac (s_callS (M := M_Lw_isGrown) (pc := 13) (tz_Lw rfl) h13 q_Lw_sum wd1236 wd1237) ?_
  refine ac (s_lstn (M := M_Lw_isGrown) (pc := 16) (k := 2) h16 (by decide)) ?_
  refine ac (s_aldn (M := M_Lw_isGrown) (pc := 17) (k := 0) h17) ?_
  refine ac (s_iconst (M := M_Lw_isGrown) (pc := 18) h18 rfl) ?_
  refine ac (s_callV (M := M_Lw_isGrown) (pc := 19) (tz_Lw rfl) h19 q_R_count wd322 wd323 wd324 rfl (T := TX7) (N := 12) rfl) ?_
  refine ac (s_ist (M := M_Lw_isGrown) (pc := 22) h22 (by decide)) ?_
  refine ac (s_ild (M := M_Lw_isGrown) (pc := 24) h24) ?_
  refine ac (s_aldn (M := M_Lw_isGrown) (pc := 26) (k := 0) h26) ?_
  refine ac (s_iconst (M := M_Lw_isGrown) (pc := 27) h27 rfl) ?_
  refine ac (s_callV (M := M_Lw_isGrown) (pc := 28) (tz_Lw rfl) h28 q_R_count wd322 wd323 wd324 rfl (T := TX7) (N := 12) rfl) ?_
  refine ac (s_isub (M := M_Lw_isGrown) (pc := 31) h31) ?_
  refine ac (s_ist (M := M_Lw_isGrown) (pc := 32) h32 (by decide)) ?_
  refine ac (s_aldn (M := M_Lw_isGrown) (pc := 34) (k := 0) h34) ?_
  refine ac (s_ildn (M := M_Lw_isGrown) (pc := 35) (k := 1) h35) ?_
  refine ac (s_callV (M := M_Lw_isGrown) (pc := 36) (tz_Lw rfl) h36 q_R_grow wd1253 wd1254 wd1255 rfl (T := TX7) (N := 12) rfl) ?_
  refine ac (s_if_ne (M := M_Lw_isGrown) (pc := 39) h39 (by decide)) ?_
  refine ac (s_aldn (M := M_Lw_isGrown) (pc := 42) (k := 0) h42) ?_
  refine ac (s_callS (M := M_Lw_isGrown) (pc := 43) (tz_Lw rfl) h43 q_Lw_sum wd1236 wd1237) ?_
  refine ac (s_lldn (M := M_Lw_isGrown) (pc := 46) (k := 2) h46) ?_
  refine ac (s_lc_ne (M := M_Lw_isGrown) (pc := 47) h47 h48 (by decide)) ?_
  refine ac (s_aldn (M := M_Lw_isGrown) (pc := 51) (k := 0) h51) ?_
  refine ac (s_ild (M := M_Lw_isGrown) (pc := 52) h52) ?_
  refine ac (s_callV (M := M_Lw_isGrown) (pc := 54) (tz_Lw rfl) h54 q_R_modulus wd431 wd432 wd433 rfl (T := TX7) (N := 12) rfl) ?_
  refine ac (s_ildn (M := M_Lw_isGrown) (pc := 57) (k := 1) h57) ?_
  refine ac (s_icmp_ne (M := M_Lw_isGrown) (pc := 58) h58 (by decide)) ?_
  refine ac (s_aldn (M := M_Lw_isGrown) (pc := 61) (k := 0) h61) ?_
  refine ac (s_iconst (M := M_Lw_isGrown) (pc := 62) h62 rfl) ?_
  refine ac (s_callV (M := M_Lw_isGrown) (pc := 63) (tz_Lw rfl) h63 q_R_count wd322 wd323 wd324 rfl (T := TX7) (N := 12) rfl) ?_
  refine ac (s_ild (M := M_Lw_isGrown) (pc := 66) h66) ?_
  refine ac (s_iconst (M := M_Lw_isGrown) (pc := 68) h68 rfl) ?_
  refine ac (s_iadd (M := M_Lw_isGrown) (pc := 69) h69) ?_
  refine ac (s_icmp_ne (M := M_Lw_isGrown) (pc := 70) h70 (by decide)) ?_
  refine ac (s_aldn (M := M_Lw_isGrown) (pc := 73) (k := 0) h73) ?_
  refine ac (s_callS (M := M_Lw_isGrown) (pc := 74) (tz_Lw rfl) h74 q_Lw_isBounded wd1130 wd1131) ?_
  refine ac (s_if_eq (M := M_Lw_isGrown) (pc := 77) h77 (by decide)) ?_
  refine ac (s_aldn (M := M_Lw_isGrown) (pc := 80) (k := 0) h80) ?_
  refine ac (s_callV (M := M_Lw_isGrown) (pc := 81) (tz_Lw rfl) h81 q_R_gap wd495 wd496 wd497 rfl (T := TX7) (N := 12) rfl) ?_
  refine ac (s_lconst (M := M_Lw_isGrown) (pc := 84) h84 (by decide)) ?_
  refine ac (s_lc_eq (M := M_Lw_isGrown) (pc := 85) h85 h86 (by decide)) ?_
  refine ac (s_iconst (M := M_Lw_isGrown) (pc := 89) h89 rfl) ?_
  refine ac (s_zret (M := M_Lw_isGrown) (pc := 90) h90 rfl) ?_
  refine ac (s_aldn (M := M_Lw_isGrown) (pc := 91) (k := 0) h91) ?_
  refine ac (s_callV (M := M_Lw_isGrown) (pc := 92) (tz_Lw rfl) h92 q_R_spare wd1263 wd1264 wd1265 rfl (T := TX7) (N := 12) rfl) ?_
  refine ac (s_ild (M := M_Lw_isGrown) (pc := 95) h95) ?_
  refine ac (s_ishr (M := M_Lw_isGrown) (pc := 97) h97) ?_
  refine ac (s_iconst (M := M_Lw_isGrown) (pc := 98) h98 rfl) ?_
  refine ac (s_iand (M := M_Lw_isGrown) (pc := 99) h99) ?_
  refine ac (s_iconst (M := M_Lw_isGrown) (pc := 100) h100 rfl) ?_
  refine ac (s_icmp_ne (M := M_Lw_isGrown) (pc := 101) h101 (by decide)) ?_
  refine ac (s_aldn (M := M_Lw_isGrown) (pc := 104) (k := 0) h104) ?_
  refine ac (s_ild (M := M_Lw_isGrown) (pc := 105) h105) ?_
  refine ac (s_callV (M := M_Lw_isGrown) (pc := 107) (tz_Lw rfl) h107 q_R_drop wd1277 wd1278 wd1279 rfl (T := TX7) (N := 12) rfl) ?_
  refine ac (s_if_ne (M := M_Lw_isGrown) (pc := 110) h110 (by decide)) ?_
  refine ac (s_aldn (M := M_Lw_isGrown) (pc := 113) (k := 0) h113) ?_
  refine ac (s_callS (M := M_Lw_isGrown) (pc := 114) (tz_Lw rfl) h114 q_Lw_sum wd1236 wd1237) ?_
  refine ac (s_lldn (M := M_Lw_isGrown) (pc := 117) (k := 2) h117) ?_
  refine ac (s_lc_ne (M := M_Lw_isGrown) (pc := 118) h118 h119 (by decide)) ?_
  refine ac (s_aldn (M := M_Lw_isGrown) (pc := 122) (k := 0) h122) ?_
  refine ac (s_iconst (M := M_Lw_isGrown) (pc := 123) h123 rfl) ?_
  refine ac (s_callV (M := M_Lw_isGrown) (pc := 124) (tz_Lw rfl) h124 q_R_count wd322 wd323 wd324 rfl (T := TX7) (N := 12) rfl) ?_
  refine ac (s_ild (M := M_Lw_isGrown) (pc := 127) h127) ?_
  refine ac (s_icmp_ne (M := M_Lw_isGrown) (pc := 129) h129 (by decide)) ?_
  refine ac (s_aldn (M := M_Lw_isGrown) (pc := 132) (k := 0) h132) ?_
  refine ac (s_callS (M := M_Lw_isGrown) (pc := 133) (tz_Lw rfl) h133 q_Lw_isBounded wd1130 wd1131) ?_
  refine ac (s_if_eq (M := M_Lw_isGrown) (pc := 136) h136 (by decide)) ?_
  refine ac (s_iconst (M := M_Lw_isGrown) (pc := 139) h139 rfl) ?_
  refine ac (s_goto (M := M_Lw_isGrown) (pc := 140) h140 (by decide)) ?_
  refine ac (s_iconst (M := M_Lw_isGrown) (pc := 143) h143 rfl) ?_
  refine ac (s_zret (M := M_Lw_isGrown) (pc := 144) h144 rfl) ?_
  exact ac_nil
