theorem e0_jMath_floorDiv : decode prog_24_method_49_code 0 = .ok (.lload_n 0, 1) ∧ decode prog_24_method_49_code 1 = .ok (.lload_n 2, 1) ∧ decode prog_24_method_49_code 2 = .ok (.ldiv, 1) ∧ decode prog_24_method_49_code 3 = .ok (.lstore 4, 2) ∧ decode prog_24_method_49_code 5 = .ok (.lload_n 0, 1) ∧ decode prog_24_method_49_code 6 = .ok (.lload_n 2, 1) ∧ decode prog_24_method_49_code 7 = .ok (.lxor, 1) ∧ decode prog_24_method_49_code 8 = .ok (.lconst 0, 1) ∧ decode prog_24_method_49_code 9 = .ok (.lcmp, 1) ∧ decode prog_24_method_49_code 10 = .ok (.ifCond .ge 17, 3) ∧ decode prog_24_method_49_code 13 = .ok (.lload 4, 2) ∧ decode prog_24_method_49_code 15 = .ok (.lload_n 2, 1) := by decide +kernel
theorem e1_jMath_floorDiv : decode prog_24_method_49_code 16 = .ok (.lmul, 1) ∧ decode prog_24_method_49_code 17 = .ok (.lload_n 0, 1) ∧ decode prog_24_method_49_code 18 = .ok (.lcmp, 1) ∧ decode prog_24_method_49_code 19 = .ok (.ifCond .eq 8, 3) ∧ decode prog_24_method_49_code 22 = .ok (.lload 4, 2) ∧ decode prog_24_method_49_code 24 = .ok (.lconst 1, 1) ∧ decode prog_24_method_49_code 25 = .ok (.lsub, 1) ∧ decode prog_24_method_49_code 26 = .ok (.lreturn, 1) ∧ decode prog_24_method_49_code 27 = .ok (.lload 4, 2) ∧ decode prog_24_method_49_code 29 = .ok (.lreturn, 1) := by decide +kernel
def T_jMath_floorDiv : TT := [(0, o_lld 0 1), (1, o_lld 2 2), (2, o_ldiv 3), (3, o_lst 4 5), (5, o_lld 0 6), (6, o_lld 2 7), (7, o_lxor 8), (8, o_push (.long (lI 0)) 9), (9, o_lc_ge 27 13), (13, o_lld 4 15), (15, o_lld 2 16), (16, o_lmul 17), (17, o_lld 0 18), (18, o_lc_eq 27 22), (22, o_lld 4 24), (24, o_push (.long (lI 1)) 25), (25, o_lsub 26), (26, o_lret), (27, o_lld 4 29), (29, o_lret)]
theorem k_jMath_floorDiv : ∀ x ∈ T_jMath_floorDiv, SO M_jMath_floorDiv x.1 x.2 := by
  obtain ⟨h0, h1, h2, h3, h5, h6, h7, h8, h9, h10, h13, h15⟩ := e0_jMath_floorDiv
  obtain ⟨h16, h17, h18, h19, h22, h24, h25, h26, h27, h29⟩ := e1_jMath_floorDiv
  refine ac (s_lldn (M := M_jMath_floorDiv) (pc := 0) (k := 0) h0) ?_
  refine ac (s_lldn (M := M_jMath_floorDiv) (pc := 1) (k := 2) h1) ?_
  refine ac (s_ldiv (M := M_jMath_floorDiv) (pc := 2) h2) ?_
  refine ac (s_lst (M := M_jMath_floorDiv) (pc := 3) h3 (by decide)) ?_
  refine ac (s_lldn (M := M_jMath_floorDiv) (pc := 5) (k := 0) h5) ?_
  refine ac (s_lldn (M := M_jMath_floorDiv) (pc := 6) (k := 2) h6) ?_
  refine ac (s_lxor (M := M_jMath_floorDiv) (pc := 7) h7) ?_
  refine ac (s_lconst (M := M_jMath_floorDiv) (pc := 8) h8 (by decide)) ?_
  refine ac (s_lc_ge (M := M_jMath_floorDiv) (pc := 9) h9 h10 (by decide)) ?_
  refine ac (s_lld (M := M_jMath_floorDiv) (pc := 13) h13) ?_
  refine ac (s_lldn (M := M_jMath_floorDiv) (pc := 15) (k := 2) h15) ?_
  refine ac (s_lmul (M := M_jMath_floorDiv) (pc := 16) h16) ?_
  refine ac (s_lldn (M := M_jMath_floorDiv) (pc := 17) (k := 0) h17) ?_
  refine ac (s_lc_eq (M := M_jMath_floorDiv) (pc := 18) h18 h19 (by decide)) ?_
  refine ac (s_lld (M := M_jMath_floorDiv) (pc := 22) h22) ?_
  refine ac (s_lconst (M := M_jMath_floorDiv) (pc := 24) h24 (by decide)) ?_
  refine ac (s_lsub (M := M_jMath_floorDiv) (pc := 25) h25) ?_
  refine ac (s_lret (M := M_jMath_floorDiv) (pc := 26) h26 rfl) ?_
  refine ac (s_lld (M := M_jMath_floorDiv) (pc := 27) h27) ?_
  refine ac (s_lret (M := M_jMath_floorDiv) (pc := 29) h29 rfl) ?_
  exact ac_nil
theorem e0_jMath_floorMod : decode prog_24_method_52_code 0 = .ok (.lload_n 0, 1) ∧ decode prog_24_method_52_code 1 = .ok (.lload_n 2, 1) ∧ decode prog_24_method_52_code 2 = .ok (.lrem, 1) ∧ decode prog_24_method_52_code 3 = .ok (.lstore 4, 2) ∧ decode prog_24_method_52_code 5 = .ok (.lload_n 0, 1) ∧ decode prog_24_method_52_code 6 = .ok (.lload_n 2, 1) ∧ decode prog_24_method_52_code 7 = .ok (.lxor, 1) ∧ decode prog_24_method_52_code 8 = .ok (.lconst 0, 1) ∧ decode prog_24_method_52_code 9 = .ok (.lcmp, 1) ∧ decode prog_24_method_52_code 10 = .ok (.ifCond .ge 15, 3) ∧ decode prog_24_method_52_code 13 = .ok (.lload 4, 2) ∧ decode prog_24_method_52_code 15 = .ok (.lconst 0, 1) := by decide +kernel
theorem e1_jMath_floorMod : decode prog_24_method_52_code 16 = .ok (.lcmp, 1) ∧ decode prog_24_method_52_code 17 = .ok (.ifCond .eq 8, 3) ∧ decode prog_24_method_52_code 20 = .ok (.lload 4, 2) ∧ decode prog_24_method_52_code 22 = .ok (.lload_n 2, 1) ∧ decode prog_24_method_52_code 23 = .ok (.ladd, 1) ∧ decode prog_24_method_52_code 24 = .ok (.lreturn, 1) ∧ decode prog_24_method_52_code 25 = .ok (.lload 4, 2) ∧ decode prog_24_method_52_code 27 = .ok (.lreturn, 1) := by decide +kernel
def T_jMath_floorMod : TT := [(0, o_lld 0 1), (1, o_lld 2 2), (2, o_lrem 3), (3, o_lst 4 5), (5, o_lld 0 6), (6, o_lld 2 7), (7, o_lxor 8), (8, o_push (.long (lI 0)) 9), (9, o_lc_ge 25 13), (13, o_lld 4 15), (15, o_push (.long (lI 0)) 16), (16, o_lc_eq 25 20), (20, o_lld 4 22), (22, o_lld 2 23), (23, o_ladd 24), (24, o_lret), (25, o_lld 4 27), (27, o_lret)]
theorem k_jMath_floorMod : ∀ x ∈ T_jMath_floorMod, SO M_jMath_floorMod x.1 x.2 := by
  obtain ⟨h0, h1, h2, h3, h5, h6, h7, h8, h9, h10, h13, h15⟩ := e0_jMath_floorMod
  obtain ⟨h16, h17, h20, h22, h23, h24, h25, h27⟩ := e1_jMath_floorMod
  refine ac (s_lldn (M := M_jMath_floorMod) (pc := 0) (k := 0) h0) ?_
  refine ac (s_lldn (M := M_jMath_floorMod) (pc := 1) (k := 2) h1) ?_
  refine ac (s_lrem (M := M_jMath_floorMod) (pc := 2) h2) ?_
  refine ac (s_lst (M := M_jMath_floorMod) (pc := 3) h3 (by decide)) ?_
  refine ac (s_lldn (M := M_jMath_floorMod) (pc := 5) (k := 0) h5) ?_
  refine ac (s_lldn (M := M_jMath_floorMod) (pc := 6) (k := 2) h6) ?_
  refine ac (s_lxor (M := M_jMath_floorMod) (pc := 7) h7) ?_
  refine ac (s_lconst (M := M_jMath_floorMod) (pc := 8) h8 (by decide)) ?_
  refine ac (s_lc_ge (M := M_jMath_floorMod) (pc := 9) h9 h10 (by decide)) ?_
  refine ac (s_lld (M := M_jMath_floorMod) (pc := 13) h13) ?_
  refine ac (s_lconst (M := M_jMath_floorMod) (pc := 15) h15 (by decide)) ?_
  refine ac (s_lc_eq (M := M_jMath_floorMod) (pc := 16) h16 h17 (by decide)) ?_
  refine ac (s_lld (M := M_jMath_floorMod) (pc := 20) h20) ?_
  refine ac (s_lldn (M := M_jMath_floorMod) (pc := 22) (k := 2) h22) ?_
  refine ac (s_ladd (M := M_jMath_floorMod) (pc := 23) h23) ?_
  refine ac (s_lret (M := M_jMath_floorMod) (pc := 24) h24 rfl) ?_
  refine ac (s_lld (M := M_jMath_floorMod) (pc := 25) h25) ?_
  refine ac (s_lret (M := M_jMath_floorMod) (pc := 27) h27 rfl) ?_
  exact ac_nil
theorem e0_jLong_compare : decode prog_23_method_42_code 0 = .ok (.lload_n 0, 1) ∧ decode prog_23_method_42_code 1 = .ok (.lload_n 2, 1) ∧ decode prog_23_method_42_code 2 = .ok (.lcmp, 1) ∧ decode prog_23_method_42_code 3 = .ok (.ifCond .ge 7, 3) ∧ decode prog_23_method_42_code 6 = .ok (.iconst (-1), 1) ∧ decode prog_23_method_42_code 7 = .ok (.goto 14, 3) ∧ decode prog_23_method_42_code 10 = .ok (.lload_n 0, 1) ∧ decode prog_23_method_42_code 11 = .ok (.lload_n 2, 1) ∧ decode prog_23_method_42_code 12 = .ok (.lcmp, 1) ∧ decode prog_23_method_42_code 13 = .ok (.ifCond .ne 7, 3) ∧ decode prog_23_method_42_code 16 = .ok (.iconst 0, 1) ∧ decode prog_23_method_42_code 17 = .ok (.goto 4, 3) := by decide +kernel
theorem e1_jLong_compare : decode prog_23_method_42_code 20 = .ok (.iconst 1, 1) ∧ decode prog_23_method_42_code 21 = .ok (.ireturn, 1) := by decide +kernel
def T_jLong_compare : TT := [(0, o_lld 0 1), (1, o_lld 2 2), (2, o_lc_ge 10 6), (6, o_push (.int (iI (-1))) 7), (7, o_goto 21), (10, o_lld 0 11), (11, o_lld 2 12), (12, o_lc_ne 20 16), (16, o_push (.int (iI (0))) 17), (17, o_goto 21), (20, o_push (.int (iI (1))) 21), (21, o_iret)]
theorem k_jLong_compare : ∀ x ∈ T_jLong_compare, SO M_jLong_compare x.1 x.2 := by
  obtain ⟨h0, h1, h2, h3, h6, h7, h10, h11, h12, h13, h16, h17⟩ := e0_jLong_compare
  obtain ⟨h20, h21⟩ := e1_jLong_compare
  refine ac (s_lldn (M := M_jLong_compare) (pc := 0) (k := 0) h0) ?_
  refine ac (s_lldn (M := M_jLong_compare) (pc := 1) (k := 2) h1) ?_
  refine ac (s_lc_ge (M := M_jLong_compare) (pc := 2) h2 h3 (by decide)) ?_
  refine ac (s_iconst (M := M_jLong_compare) (pc := 6) h6 rfl) ?_
  refine ac (s_goto (M := M_jLong_compare) (pc := 7) h7 (by decide)) ?_
  refine ac (s_lldn (M := M_jLong_compare) (pc := 10) (k := 0) h10) ?_
  refine ac (s_lldn (M := M_jLong_compare) (pc := 11) (k := 2) h11) ?_
  refine ac (s_lc_ne (M := M_jLong_compare) (pc := 12) h12 h13 (by decide)) ?_
  refine ac (s_iconst (M := M_jLong_compare) (pc := 16) h16 rfl) ?_
  refine ac (s_goto (M := M_jLong_compare) (pc := 17) h17 (by decide)) ?_
  refine ac (s_iconst (M := M_jLong_compare) (pc := 20) h20 rfl) ?_
  refine ac (s_iret (M := M_jLong_compare) (pc := 21) h21 rfl) ?_
  exact ac_nil
theorem e0_jMath_abs : decode prog_24_method_61_code 0 = .ok (.lload_n 0, 1) ∧ decode prog_24_method_61_code 1 = .ok (.lconst 0, 1) ∧ decode prog_24_method_61_code 2 = .ok (.lcmp, 1) ∧ decode prog_24_method_61_code 3 = .ok (.ifCond .ge 8, 3) ∧ decode prog_24_method_61_code 6 = .ok (.lload_n 0, 1) ∧ decode prog_24_method_61_code 7 = .ok (.lneg, 1) ∧ decode prog_24_method_61_code 8 = .ok (.goto 4, 3) ∧ decode prog_24_method_61_code 11 = .ok (.lload_n 0, 1) ∧ decode prog_24_method_61_code 12 = .ok (.lreturn, 1) := by decide +kernel
def T_jMath_abs : TT := [(0, o_lld 0 1), (1, o_push (.long (lI 0)) 2), (2, o_lc_ge 11 6), (6, o_lld 0 7), (7, o_lneg 8), (8, o_goto 12), (11, o_lld 0 12), (12, o_lret)]
theorem k_jMath_abs : ∀ x ∈ T_jMath_abs, SO M_jMath_abs x.1 x.2 := by
  obtain ⟨h0, h1, h2, h3, h6, h7, h8, h11, h12⟩ := e0_jMath_abs
  refine ac (s_lldn (M := M_jMath_abs) (pc := 0) (k := 0) h0) ?_
  refine ac (s_lconst (M := M_jMath_abs) (pc := 1) h1 (by decide)) ?_
  refine ac (s_lc_ge (M := M_jMath_abs) (pc := 2) h2 h3 (by decide)) ?_
  refine ac (s_lldn (M := M_jMath_abs) (pc := 6) (k := 0) h6) ?_
  refine ac (s_lneg (M := M_jMath_abs) (pc := 7) h7) ?_
  refine ac (s_goto (M := M_jMath_abs) (pc := 8) h8 (by decide)) ?_
  refine ac (s_lldn (M := M_jMath_abs) (pc := 11) (k := 0) h11) ?_
  refine ac (s_lret (M := M_jMath_abs) (pc := 12) h12 rfl) ?_
  exact ac_nil
theorem e0_jMath_min : decode prog_24_method_69_code 0 = .ok (.iload_n 0, 1) ∧ decode prog_24_method_69_code 1 = .ok (.iload_n 1, 1) ∧ decode prog_24_method_69_code 2 = .ok (.if_icmp .gt 7, 3) ∧ decode prog_24_method_69_code 5 = .ok (.iload_n 0, 1) ∧ decode prog_24_method_69_code 6 = .ok (.goto 4, 3) ∧ decode prog_24_method_69_code 9 = .ok (.iload_n 1, 1) ∧ decode prog_24_method_69_code 10 = .ok (.ireturn, 1) := by decide +kernel
def T_jMath_min : TT := [(0, o_ild 0 1), (1, o_ild 1 2), (2, o_icmp_gt 9 5), (5, o_ild 0 6), (6, o_goto 10), (9, o_ild 1 10), (10, o_iret)]
theorem k_jMath_min : ∀ x ∈ T_jMath_min, SO M_jMath_min x.1 x.2 := by
  obtain ⟨h0, h1, h2, h5, h6, h9, h10⟩ := e0_jMath_min
  refine ac (s_ildn (M := M_jMath_min) (pc := 0) (k := 0) h0) ?_
  refine ac (s_ildn (M := M_jMath_min) (pc := 1) (k := 1) h1) ?_
  refine ac (s_icmp_gt (M := M_jMath_min) (pc := 2) h2 (by decide)) ?_
  refine ac (s_ildn (M := M_jMath_min) (pc := 5) (k := 0) h5) ?_
  refine ac (s_goto (M := M_jMath_min) (pc := 6) h6 (by decide)) ?_
  refine ac (s_ildn (M := M_jMath_min) (pc := 9) (k := 1) h9) ?_
  refine ac (s_iret (M := M_jMath_min) (pc := 10) h10 rfl) ?_
  exact ac_nil
theorem e0_jMath_max : decode prog_24_method_65_code 0 = .ok (.iload_n 0, 1) ∧ decode prog_24_method_65_code 1 = .ok (.iload_n 1, 1) ∧ decode prog_24_method_65_code 2 = .ok (.if_icmp .lt 7, 3) ∧ decode prog_24_method_65_code 5 = .ok (.iload_n 0, 1) ∧ decode prog_24_method_65_code 6 = .ok (.goto 4, 3) ∧ decode prog_24_method_65_code 9 = .ok (.iload_n 1, 1) ∧ decode prog_24_method_65_code 10 = .ok (.ireturn, 1) := by decide +kernel
def T_jMath_max : TT := [(0, o_ild 0 1), (1, o_ild 1 2), (2, o_icmp_lt 9 5), (5, o_ild 0 6), (6, o_goto 10), (9, o_ild 1 10), (10, o_iret)]
theorem k_jMath_max : ∀ x ∈ T_jMath_max, SO M_jMath_max x.1 x.2 := by
  obtain ⟨h0, h1, h2, h5, h6, h9, h10⟩ := e0_jMath_max
  refine ac (s_ildn (M := M_jMath_max) (pc := 0) (k := 0) h0) ?_
  refine ac (s_ildn (M := M_jMath_max) (pc := 1) (k := 1) h1) ?_
  refine ac (s_icmp_lt (M := M_jMath_max) (pc := 2) h2 (by decide)) ?_
  refine ac (s_ildn (M := M_jMath_max) (pc := 5) (k := 0) h5) ?_
  refine ac (s_goto (M := M_jMath_max) (pc := 6) h6 (by decide)) ?_
  refine ac (s_ildn (M := M_jMath_max) (pc := 9) (k := 1) h9) ?_
  refine ac (s_iret (M := M_jMath_max) (pc := 10) h10 rfl) ?_
  exact ac_nil
theorem e0_jArr_fill_AJJ : decode prog_35_method_101_code 0 = .ok (.iconst 0, 1) ∧ decode prog_35_method_101_code 1 = .ok (.istore_n 3, 1) ∧ decode prog_35_method_101_code 2 = .ok (.aload_n 0, 1) ∧ decode prog_35_method_101_code 3 = .ok (.arraylength, 1) ∧ decode prog_35_method_101_code 4 = .ok (.istore 4, 2) ∧ decode prog_35_method_101_code 6 = .ok (.iload_n 3, 1) ∧ decode prog_35_method_101_code 7 = .ok (.iload 4, 2) ∧ decode prog_35_method_101_code 9 = .ok (.if_icmp .ge 13, 3) ∧ decode prog_35_method_101_code 12 = .ok (.aload_n 0, 1) ∧ decode prog_35_method_101_code 13 = .ok (.iload_n 3, 1) ∧ decode prog_35_method_101_code 14 = .ok (.lload_n 1, 1) ∧ decode prog_35_method_101_code 15 = .ok (.lastore, 1) := by decide +kernel
theorem e1_jArr_fill_AJJ : decode prog_35_method_101_code 16 = .ok (.iinc 3 1, 3) ∧ decode prog_35_method_101_code 19 = .ok (.goto (-13), 3) ∧ decode prog_35_method_101_code 22 = .ok (.return_, 1) := by decide +kernel
def T_jArr_fill_AJJ : TT := [(0, o_push (.int (iI (0))) 1), (1, o_ist 3 2), (2, o_ald 0 3), (3, o_alen 4), (4, o_ist 4 6), (6, o_ild 3 7), (7, o_ild 4 9), (9, o_icmp_ge 22 12), (12, o_ald 0 13), (13, o_ild 3 14), (14, o_lld 1 15), (15, o_last 16), (16, o_iinc 3 (iI (1)) 19), (19, o_goto 6), (22, o_vret)]
theorem k_jArr_fill_AJJ : ∀ x ∈ T_jArr_fill_AJJ, SO M_jArr_fill_AJJ x.1 x.2 := by
  obtain ⟨h0, h1, h2, h3, h4, h6, h7, h9, h12, h13, h14, h15⟩ := e0_jArr_fill_AJJ
  obtain ⟨h16, h19, h22⟩ := e1_jArr_fill_AJJ
  refine ac (s_iconst (M := M_jArr_fill_AJJ) (pc := 0) h0 rfl) ?_
  refine ac (s_istn (M := M_jArr_fill_AJJ) (pc := 1) (k := 3) h1 (by decide)) ?_
  refine ac (s_aldn (M := M_jArr_fill_AJJ) (pc := 2) (k := 0) h2) ?_
  refine ac (s_alen (M := M_jArr_fill_AJJ) (pc := 3) h3) ?_
  refine ac (s_ist (M := M_jArr_fill_AJJ) (pc := 4) h4 (by decide)) ?_
  refine ac (s_ildn (M := M_jArr_fill_AJJ) (pc := 6) (k := 3) h6) ?_
  refine ac (s_ild (M := M_jArr_fill_AJJ) (pc := 7) h7) ?_
  refine ac (s_icmp_ge (M := M_jArr_fill_AJJ) (pc := 9) h9 (by decide)) ?_
  refine ac (s_aldn (M := M_jArr_fill_AJJ) (pc := 12) (k := 0) h12) ?_
  refine ac (s_ildn (M := M_jArr_fill_AJJ) (pc := 13) (k := 3) h13) ?_
  refine ac (s_lldn (M := M_jArr_fill_AJJ) (pc := 14) (k := 1) h14) ?_
  refine ac (s_last (M := M_jArr_fill_AJJ) (pc := 15) h15) ?_
  refine ac (s_iinc (M := M_jArr_fill_AJJ) (pc := 16) h16 rfl (by decide)) ?_
  refine ac (s_goto (M := M_jArr_fill_AJJ) (pc := 19) h19 (by decide)) ?_
  refine ac (s_vret (M := M_jArr_fill_AJJ) (pc := 22) h22 rfl) ?_
  exact ac_nil
theorem e0_jArr_fill_AII : decode prog_35_method_103_code 0 = .ok (.iconst 0, 1) ∧ decode prog_35_method_103_code 1 = .ok (.istore_n 2, 1) ∧ decode prog_35_method_103_code 2 = .ok (.aload_n 0, 1) ∧ decode prog_35_method_103_code 3 = .ok (.arraylength, 1) ∧ decode prog_35_method_103_code 4 = .ok (.istore_n 3, 1) ∧ decode prog_35_method_103_code 5 = .ok (.iload_n 2, 1) ∧ decode prog_35_method_103_code 6 = .ok (.iload_n 3, 1) ∧ decode prog_35_method_103_code 7 = .ok (.if_icmp .ge 13, 3) ∧ decode prog_35_method_103_code 10 = .ok (.aload_n 0, 1) ∧ decode prog_35_method_103_code 11 = .ok (.iload_n 2, 1) ∧ decode prog_35_method_103_code 12 = .ok (.iload_n 1, 1) ∧ decode prog_35_method_103_code 13 = .ok (.iastore, 1) := by decide +kernel
theorem e1_jArr_fill_AII : decode prog_35_method_103_code 14 = .ok (.iinc 2 1, 3) ∧ decode prog_35_method_103_code 17 = .ok (.goto (-12), 3) ∧ decode prog_35_method_103_code 20 = .ok (.return_, 1) := by decide +kernel
def T_jArr_fill_AII : TT := [(0, o_push (.int (iI (0))) 1), (1, o_ist 2 2), (2, o_ald 0 3), (3, o_alen 4), (4, o_ist 3 5), (5, o_ild 2 6), (6, o_ild 3 7), (7, o_icmp_ge 20 10), (10, o_ald 0 11), (11, o_ild 2 12), (12, o_ild 1 13), (13, o_iast 14), (14, o_iinc 2 (iI (1)) 17), (17, o_goto 5), (20, o_vret)]
theorem k_jArr_fill_AII : ∀ x ∈ T_jArr_fill_AII, SO M_jArr_fill_AII x.1 x.2 := by
  obtain ⟨h0, h1, h2, h3, h4, h5, h6, h7, h10, h11, h12, h13⟩ := e0_jArr_fill_AII
  obtain ⟨h14, h17, h20⟩ := e1_jArr_fill_AII
  refine ac (s_iconst (M := M_jArr_fill_AII) (pc := 0) h0 rfl) ?_
  refine ac (s_istn (M := M_jArr_fill_AII) (pc := 1) (k := 2) h1 (by decide)) ?_
  refine ac (s_aldn (M := M_jArr_fill_AII) (pc := 2) (k := 0) h2) ?_
  refine ac (s_alen (M := M_jArr_fill_AII) (pc := 3) h3) ?_
  refine ac (s_istn (M := M_jArr_fill_AII) (pc := 4) (k := 3) h4 (by decide)) ?_
  refine ac (s_ildn (M := M_jArr_fill_AII) (pc := 5) (k := 2) h5) ?_
  refine ac (s_ildn (M := M_jArr_fill_AII) (pc := 6) (k := 3) h6) ?_
  refine ac (s_icmp_ge (M := M_jArr_fill_AII) (pc := 7) h7 (by decide)) ?_
  refine ac (s_aldn (M := M_jArr_fill_AII) (pc := 10) (k := 0) h10) ?_
  refine ac (s_ildn (M := M_jArr_fill_AII) (pc := 11) (k := 2) h11) ?_
  refine ac (s_ildn (M := M_jArr_fill_AII) (pc := 12) (k := 1) h12) ?_
  refine ac (s_iast (M := M_jArr_fill_AII) (pc := 13) h13) ?_
  refine ac (s_iinc (M := M_jArr_fill_AII) (pc := 14) h14 rfl (by decide)) ?_
  refine ac (s_goto (M := M_jArr_fill_AII) (pc := 17) h17 (by decide)) ?_
  refine ac (s_vret (M := M_jArr_fill_AII) (pc := 20) h20 rfl) ?_
  exact ac_nil
