theorem e0_Mo_insert : decode prog_4_method_12_code 0 = .ok (.aload_n 0, 1) ∧ decode prog_4_method_12_code 1 = .ok (.invokevirtual 66, 3) ∧ decode prog_4_method_12_code 4 = .ok (.istore_n 2, 1) ∧ decode prog_4_method_12_code 5 = .ok (.aload_n 0, 1) ∧ decode prog_4_method_12_code 6 = .ok (.getfield 33, 3) ∧ decode prog_4_method_12_code 9 = .ok (.aload_n 0, 1) ∧ decode prog_4_method_12_code 10 = .ok (.getfield 9, 3) ∧ decode prog_4_method_12_code 13 = .ok (.arraylength, 1) ∧ decode prog_4_method_12_code 14 = .ok (.if_icmp .ge 15, 3) ∧ decode prog_4_method_12_code 17 = .ok (.iload_n 2, 1) ∧ decode prog_4_method_12_code 18 = .ok (.ifCond .lt 11, 3) ∧ decode prog_4_method_12_code 21 = .ok (.iload_n 2, 1) := by decide +kernel
theorem e1_Mo_insert : decode prog_4_method_12_code 22 = .ok (.aload_n 0, 1) ∧ decode prog_4_method_12_code 23 = .ok (.getfield 33, 3) ∧ decode prog_4_method_12_code 26 = .ok (.if_icmp .le 4, 3) ∧ decode prog_4_method_12_code 29 = .ok (.return_, 1) ∧ decode prog_4_method_12_code 30 = .ok (.aload_n 0, 1) ∧ decode prog_4_method_12_code 31 = .ok (.getfield 33, 3) ∧ decode prog_4_method_12_code 34 = .ok (.istore_n 3, 1) ∧ decode prog_4_method_12_code 35 = .ok (.iload_n 3, 1) ∧ decode prog_4_method_12_code 36 = .ok (.iload_n 2, 1) ∧ decode prog_4_method_12_code 37 = .ok (.if_icmp .le 23, 3) ∧ decode prog_4_method_12_code 40 = .ok (.aload_n 0, 1) ∧ decode prog_4_method_12_code 41 = .ok (.getfield 9, 3) := by decide +kernel
theorem e2_Mo_insert : decode prog_4_method_12_code 44 = .ok (.iload_n 3, 1) ∧ decode prog_4_method_12_code 45 = .ok (.aload_n 0, 1) ∧ decode prog_4_method_12_code 46 = .ok (.getfield 9, 3) ∧ decode prog_4_method_12_code 49 = .ok (.iload_n 3, 1) ∧ decode prog_4_method_12_code 50 = .ok (.iconst 1, 1) ∧ decode prog_4_method_12_code 51 = .ok (.isub, 1) ∧ decode prog_4_method_12_code 52 = .ok (.iaload, 1) ∧ decode prog_4_method_12_code 53 = .ok (.iastore, 1) ∧ decode prog_4_method_12_code 54 = .ok (.iinc 3 (-1), 3) ∧ decode prog_4_method_12_code 57 = .ok (.goto (-22), 3) ∧ decode prog_4_method_12_code 60 = .ok (.aload_n 0, 1) ∧ decode prog_4_method_12_code 61 = .ok (.getfield 9, 3) := by decide +kernel
theorem e3_Mo_insert : decode prog_4_method_12_code 64 = .ok (.iload_n 2, 1) ∧ decode prog_4_method_12_code 65 = .ok (.iload_n 1, 1) ∧ decode prog_4_method_12_code 66 = .ok (.iastore, 1) ∧ decode prog_4_method_12_code 67 = .ok (.aload_n 0, 1) ∧ decode prog_4_method_12_code 68 = .ok (.dup, 1) ∧ decode prog_4_method_12_code 69 = .ok (.getfield 33, 3) ∧ decode prog_4_method_12_code 72 = .ok (.iconst 1, 1) ∧ decode prog_4_method_12_code 73 = .ok (.iadd, 1) ∧ decode prog_4_method_12_code 74 = .ok (.putfield 33, 3) ∧ decode prog_4_method_12_code 77 = .ok (.aload_n 0, 1) ∧ decode prog_4_method_12_code 78 = .ok (.invokevirtual 40, 3) ∧ decode prog_4_method_12_code 81 = .ok (.return_, 1) := by decide +kernel
def T_Mo_insert : TT := [(0, o_ald 0 1), (1, o_callV M_Mo_bases 2 1 4), (4, o_ist 2 5), (5, o_ald 0 6), (6, o_get 2 2 9), (9, o_ald 0 10), (10, o_get 2 0 13), (13, o_alen 14), (14, o_icmp_ge 29 17), (17, o_ild 2 18), (18, o_if_lt 29 21), (21, o_ild 2 22), (22, o_ald 0 23), (23, o_get 2 2 26), (26, o_icmp_le 30 29), (29, o_vret), (30, o_ald 0 31), (31, o_get 2 2 34), (34, o_ist 3 35), (35, o_ild 3 36), (36, o_ild 2 37), (37, o_icmp_le 60 40), (40, o_ald 0 41), (41, o_get 2 0 44), (44, o_ild 3 45), (45, o_ald 0 46), (46, o_get 2 0 49), (49, o_ild 3 50), (50, o_push (.int (iI (1))) 51), (51, o_isub 52), (52, o_iald 53), (53, o_iast 54), (54, o_iinc 3 (iI (-1)) 57), (57, o_goto 35), (60, o_ald 0 61), (61, o_get 2 0 64), (64, o_ild 2 65), (65, o_ild 1 66), (66, o_iast 67), (67, o_ald 0 68), (68, o_dup 69), (69, o_get 2 2 72), (72, o_push (.int (iI (1))) 73), (73, o_iadd 74), (74, o_puti 2 2 77), (77, o_ald 0 78), (78, o_callV M_Mo_measure 2 1 81), (81, o_vret)]
theorem k_Mo_insert : ∀ x ∈ T_Mo_insert, SO M_Mo_insert x.1 x.2 := by
  obtain ⟨h0, h1, h4, h5, h6, h9, h10, h13, h14, h17, h18, h21⟩ := e0_Mo_insert
  obtain ⟨h22, h23, h26, h29, h30, h31, h34, h35, h36, h37, h40, h41⟩ := e1_Mo_insert
  obtain ⟨h44, h45, h46, h49, h50, h51, h52, h53, h54, h57, h60, h61⟩ := e2_Mo_insert
  obtain ⟨h64, h65, h66, h67, h68, h69, h72, h73, h74, h77, h78, h81⟩ := e3_Mo_insert
  refine ac (s_aldn (M := M_Mo_insert) (pc := 0) (k := 0) h0) ?_
  refine ac (s_callV (M := M_Mo_insert) (pc := 1) (tz_Mo rfl) h1 q_Mo_bases wd254 wd255 wd256 rfl (T := TX2) (N := 6) rfl) ?_
  refine ac (s_istn (M := M_Mo_insert) (pc := 4) (k := 2) h4 (by decide)) ?_
  refine ac (s_aldn (M := M_Mo_insert) (pc := 5) (k := 0) h5) ?_
  refine ac (s_get (M := M_Mo_insert) (pc := 6) (T := TX2) (N := 6) h6 rfl in_X2 (by decide) wd72) ?_
  refine ac (s_aldn (M := M_Mo_insert) (pc := 9) (k := 0) h9) ?_
  refine ac (s_get (M := M_Mo_insert) (pc := 10) (T := TX2) (N := 6) h10 rfl in_X2 (by decide) wd70) ?_
  refine ac (s_alen (M := M_Mo_insert) (pc := 13) h13) ?_
  refine ac (s_icmp_ge (M := M_Mo_insert) (pc := 14) h14 (by decide)) ?_
  refine ac (s_ildn (M := M_Mo_insert) (pc := 17) (k := 2) h17) ?_
  refine ac (s_if_lt (M := M_Mo_insert) (pc := 18) h18 (by decide)) ?_
  refine ac (s_ildn (M := M_Mo_insert) (pc := 21) (k := 2) h21) ?_
  refine ac (s_aldn (M := M_Mo_insert) (pc := 22) (k := 0) h22) ?_
  refine ac (s_get (M := M_Mo_insert) (pc := 23) (T := TX2) (N := 6) h23 rfl in_X2 (by decide) wd72) ?_
  refine ac (s_icmp_le (M := M_Mo_insert) (pc := 26) h26 (by decide)) ?_
  refine ac (s_vret (M := M_Mo_insert) (pc := 29) h29 rfl) ?_
  refine ac (s_aldn (M := M_Mo_insert) (pc := 30) (k := 0) h30) ?_
  refine ac (s_get (M := M_Mo_insert) (pc := 31) (T := TX2) (N := 6) h31 rfl in_X2 (by decide) wd72) ?_
  refine ac (s_istn (M := M_Mo_insert) (pc := 34) (k := 3) h34 (by decide)) ?_
  refine ac (s_ildn (M := M_Mo_insert) (pc := 35) (k := 3) h35) ?_
  refine ac (s_ildn (M := M_Mo_insert) (pc := 36) (k := 2) h36) ?_
  refine ac (s_icmp_le (M := M_Mo_insert) (pc := 37) h37 (by decide)) ?_
  refine ac (s_aldn (M := M_Mo_insert) (pc := 40) (k := 0) h40) ?_
  refine ac (s_get (M := M_Mo_insert) (pc := 41) (T := TX2) (N := 6) h41 rfl in_X2 (by decide) wd70) ?_
  refine ac (s_ildn (M := M_Mo_insert) (pc := 44) (k := 3) h44) ?_
  refine ac (s_aldn (M := M_Mo_insert) (pc := 45) (k := 0) h45) ?_
  refine ac (s_get (M := M_Mo_insert) (pc := 46) (T := TX2) (N := 6) h46 rfl in_X2 (by decide) wd70) ?_
  refine ac (s_ildn (M := M_Mo_insert) (pc := 49) (k := 3) h49) ?_
  refine ac (s_iconst (M := M_Mo_insert) (pc := 50) h50 rfl) ?_
  refine ac (s_isub (M := M_Mo_insert) (pc := 51) h51) ?_
  refine ac (s_iald (M := M_Mo_insert) (pc := 52) h52) ?_
  refine ac (s_iast (M := M_Mo_insert) (pc := 53) h53) ?_
  refine ac (s_iinc (M := M_Mo_insert) (pc := 54) h54 rfl (by decide)) ?_
  refine ac (s_goto (M := M_Mo_insert) (pc := 57) h57 (by decide)) ?_
  refine ac (s_aldn (M := M_Mo_insert) (pc := 60) (k := 0) h60) ?_
  refine ac (s_get (M := M_Mo_insert) (pc := 61) (T := TX2) (N := 6) h61 rfl in_X2 (by decide) wd70) ?_
  refine ac (s_ildn (M := M_Mo_insert) (pc := 64) (k := 2) h64) ?_
  refine ac (s_ildn (M := M_Mo_insert) (pc := 65) (k := 1) h65) ?_
  refine ac (s_iast (M := M_Mo_insert) (pc := 66) h66) ?_
  refine ac (s_aldn (M := M_Mo_insert) (pc := 67) (k := 0) h67) ?_
  refine ac (s_dup (M := M_Mo_insert) (pc := 68) h68) ?_
  refine ac (s_get (M := M_Mo_insert) (pc := 69) (T := TX2) (N := 6) h69 rfl in_X2 (by decide) wd72) ?_
  refine ac (s_iconst (M := M_Mo_insert) (pc := 72) h72 rfl) ?_
  refine ac (s_iadd (M := M_Mo_insert) (pc := 73) h73) ?_
  refine ac (s_puti (M := M_Mo_insert) (pc := 74) (T := TX2) (N := 6) (ty0 := tyX2) h74 ⟨rfl, in_X2, by decide, wd72, tyX2_ok, nmX2, (Or.inl rfl)⟩ rfl) ?_
  refine ac (s_aldn (M := M_Mo_insert) (pc := 77) (k := 0) h77) ?_
  refine ac (s_callV (M := M_Mo_insert) (pc := 78) (tz_Mo rfl) h78 q_Mo_measure wd258 wd260 wd0 rfl (T := TX2) (N := 6) rfl) ?_
  refine ac (s_vret (M := M_Mo_insert) (pc := 81) h81 rfl) ?_
  exact ac_nil
theorem e0_Mo_bases : decode prog_4_method_6_code 0 = .ok (.aload_n 0, 1) ∧ decode prog_4_method_6_code 1 = .ok (.getfield 33, 3) ∧ decode prog_4_method_6_code 4 = .ok (.aload_n 0, 1) ∧ decode prog_4_method_6_code 5 = .ok (.getfield 37, 3) ∧ decode prog_4_method_6_code 8 = .ok (.isub, 1) ∧ decode prog_4_method_6_code 9 = .ok (.ireturn, 1) := by decide +kernel
def T_Mo_bases : TT := [(0, o_ald 0 1), (1, o_get 2 2 4), (4, o_ald 0 5), (5, o_get 2 3 8), (8, o_isub 9), (9, o_iret)]
theorem k_Mo_bases : ∀ x ∈ T_Mo_bases, SO M_Mo_bases x.1 x.2 := by
  obtain ⟨h0, h1, h4, h5, h8, h9⟩ := e0_Mo_bases
  refine ac (s_aldn (M := M_Mo_bases) (pc := 0) (k := 0) h0) ?_
  refine ac (s_get (M := M_Mo_bases) (pc := 1) (T := TX2) (N := 6) h1 rfl in_X2 (by decide) wd72) ?_
  refine ac (s_aldn (M := M_Mo_bases) (pc := 4) (k := 0) h4) ?_
  refine ac (s_get (M := M_Mo_bases) (pc := 5) (T := TX2) (N := 6) h5 rfl in_X2 (by decide) wd76) ?_
  refine ac (s_isub (M := M_Mo_bases) (pc := 8) h8) ?_
  refine ac (s_iret (M := M_Mo_bases) (pc := 9) h9 rfl) ?_
  exact ac_nil
theorem e0_Mo_measure : decode prog_4_method_15_code 0 = .ok (.aload_n 0, 1) ∧ decode prog_4_method_15_code 1 = .ok (.lconst 1, 1) ∧ decode prog_4_method_15_code 2 = .ok (.putfield 19, 3) ∧ decode prog_4_method_15_code 5 = .ok (.aload_n 0, 1) ∧ decode prog_4_method_15_code 6 = .ok (.lconst 1, 1) ∧ decode prog_4_method_15_code 7 = .ok (.putfield 23, 3) ∧ decode prog_4_method_15_code 10 = .ok (.iconst 0, 1) ∧ decode prog_4_method_15_code 11 = .ok (.istore_n 1, 1) ∧ decode prog_4_method_15_code 12 = .ok (.iload_n 1, 1) ∧ decode prog_4_method_15_code 13 = .ok (.aload_n 0, 1) ∧ decode prog_4_method_15_code 14 = .ok (.getfield 33, 3) ∧ decode prog_4_method_15_code 17 = .ok (.if_icmp .ge 47, 3) := by decide +kernel
theorem e1_Mo_measure : decode prog_4_method_15_code 20 = .ok (.aload_n 0, 1) ∧ decode prog_4_method_15_code 21 = .ok (.dup, 1) ∧ decode prog_4_method_15_code 22 = .ok (.getfield 19, 3) ∧ decode prog_4_method_15_code 25 = .ok (.aload_n 0, 1) ∧ decode prog_4_method_15_code 26 = .ok (.iload_n 1, 1) ∧ decode prog_4_method_15_code 27 = .ok (.invokevirtual 51, 3) ∧ decode prog_4_method_15_code 30 = .ok (.i2l, 1) ∧ decode prog_4_method_15_code 31 = .ok (.lmul, 1) ∧ decode prog_4_method_15_code 32 = .ok (.putfield 19, 3) ∧ decode prog_4_method_15_code 35 = .ok (.iload_n 1, 1) ∧ decode prog_4_method_15_code 36 = .ok (.aload_n 0, 1) ∧ decode prog_4_method_15_code 37 = .ok (.invokevirtual 66, 3) := by decide +kernel
theorem e2_Mo_measure : decode prog_4_method_15_code 40 = .ok (.if_icmp .ge 18, 3) ∧ decode prog_4_method_15_code 43 = .ok (.aload_n 0, 1) ∧ decode prog_4_method_15_code 44 = .ok (.dup, 1) ∧ decode prog_4_method_15_code 45 = .ok (.getfield 23, 3) ∧ decode prog_4_method_15_code 48 = .ok (.aload_n 0, 1) ∧ decode prog_4_method_15_code 49 = .ok (.iload_n 1, 1) ∧ decode prog_4_method_15_code 50 = .ok (.invokevirtual 51, 3) ∧ decode prog_4_method_15_code 53 = .ok (.i2l, 1) ∧ decode prog_4_method_15_code 54 = .ok (.lmul, 1) ∧ decode prog_4_method_15_code 55 = .ok (.putfield 23, 3) ∧ decode prog_4_method_15_code 58 = .ok (.iinc 1 1, 3) ∧ decode prog_4_method_15_code 61 = .ok (.goto (-49), 3) := by decide +kernel
theorem e3_Mo_measure : decode prog_4_method_15_code 64 = .ok (.iconst 0, 1) ∧ decode prog_4_method_15_code 65 = .ok (.istore_n 1, 1) ∧ decode prog_4_method_15_code 66 = .ok (.iload_n 1, 1) ∧ decode prog_4_method_15_code 67 = .ok (.aload_n 0, 1) ∧ decode prog_4_method_15_code 68 = .ok (.getfield 33, 3) ∧ decode prog_4_method_15_code 71 = .ok (.if_icmp .ge 50, 3) ∧ decode prog_4_method_15_code 74 = .ok (.iload_n 1, 1) ∧ decode prog_4_method_15_code 75 = .ok (.aload_n 0, 1) ∧ decode prog_4_method_15_code 76 = .ok (.getfield 15, 3) ∧ decode prog_4_method_15_code 79 = .ok (.arraylength, 1) ∧ decode prog_4_method_15_code 80 = .ok (.if_icmp .ge 41, 3) ∧ decode prog_4_method_15_code 83 = .ok (.aload_n 0, 1) := by decide +kernel
theorem e4_Mo_measure : decode prog_4_method_15_code 84 = .ok (.getfield 19, 3) ∧ decode prog_4_method_15_code 87 = .ok (.aload_n 0, 1) ∧ decode prog_4_method_15_code 88 = .ok (.iload_n 1, 1) ∧ decode prog_4_method_15_code 89 = .ok (.invokevirtual 51, 3) ∧ decode prog_4_method_15_code 92 = .ok (.i2l, 1) ∧ decode prog_4_method_15_code 93 = .ok (.invokestatic 70, 3) ∧ decode prog_4_method_15_code 96 = .ok (.lstore_n 2, 1) ∧ decode prog_4_method_15_code 97 = .ok (.aload_n 0, 1) ∧ decode prog_4_method_15_code 98 = .ok (.getfield 15, 3) ∧ decode prog_4_method_15_code 101 = .ok (.iload_n 1, 1) ∧ decode prog_4_method_15_code 102 = .ok (.lload_n 2, 1) ∧ decode prog_4_method_15_code 103 = .ok (.lload_n 2, 1) := by decide +kernel
theorem e5_Mo_measure : decode prog_4_method_15_code 104 = .ok (.aload_n 0, 1) ∧ decode prog_4_method_15_code 105 = .ok (.iload_n 1, 1) ∧ decode prog_4_method_15_code 106 = .ok (.invokevirtual 51, 3) ∧ decode prog_4_method_15_code 109 = .ok (.invokestatic 74, 3) ∧ decode prog_4_method_15_code 112 = .ok (.i2l, 1) ∧ decode prog_4_method_15_code 113 = .ok (.lmul, 1) ∧ decode prog_4_method_15_code 114 = .ok (.lastore, 1) ∧ decode prog_4_method_15_code 115 = .ok (.iinc 1 1, 3) ∧ decode prog_4_method_15_code 118 = .ok (.goto (-52), 3) ∧ decode prog_4_method_15_code 121 = .ok (.return_, 1) := by decide +kernel
def T_Mo_measure : TT := [(0, o_ald 0 1), (1, o_push (.long (lI 1)) 2), (2, o_putl 2 4 5), (5, o_ald 0 6), (6, o_push (.long (lI 1)) 7), (7, o_putl 2 5 10), (10, o_push (.int (iI (0))) 11), (11, o_ist 1 12), (12, o_ild 1 13), (13, o_ald 0 14), (14, o_get 2 2 17), (17, o_icmp_ge 64 20), (20, o_ald 0 21), (21, o_dup 22), (22, o_get 2 4 25), (25, o_ald 0 26), (26, o_ild 1 27), (27, o_callV M_Mo_at 2 2 30), (30, o_i2l 31), (31, o_lmul 32), (32, o_putl 2 4 35), (35, o_ild 1 36), (36, o_ald 0 37), (37, o_callV M_Mo_bases 2 1 40), (40, o_icmp_ge 58 43), (43, o_ald 0 44), (44, o_dup 45), (45, o_get 2 5 48), (48, o_ald 0 49), (49, o_ild 1 50), (50, o_callV M_Mo_at 2 2 53), (53, o_i2l 54), (54, o_lmul 55), (55, o_putl 2 5 58), (58, o_iinc 1 (iI (1)) 61), (61, o_goto 12), (64, o_push (.int (iI (0))) 65), (65, o_ist 1 66), (66, o_ild 1 67), (67, o_ald 0 68), (68, o_get 2 2 71), (71, o_icmp_ge 121 74), (74, o_ild 1 75), (75, o_ald 0 76), (76, o_get 2 1 79), (79, o_alen 80), (80, o_icmp_ge 121 83), (83, o_ald 0 84), (84, o_get 2 4 87), (87, o_ald 0 88), (88, o_ild 1 89), (89, o_callV M_Mo_at 2 2 92), (92, o_i2l 93), (93, o_callN M_R_floorQuotient 2 96), (96, o_lst 2 97), (97, o_ald 0 98), (98, o_get 2 1 101), (101, o_ild 1 102), (102, o_lld 2 103), (103, o_lld 2 104), (104, o_ald 0 105), (105, o_ild 1 106), (106, o_callV M_Mo_at 2 2 109), (109, o_callN M_R_inverseOf 2 112), (112, o_i2l 113), (113, o_lmul 114), (114, o_last 115), (115, o_iinc 1 (iI (1)) 118), (118, o_goto 66), (121, o_vret)]
theorem k_Mo_measure : ∀ x ∈ T_Mo_measure, SO M_Mo_measure x.1 x.2 := by
  obtain ⟨h0, h1, h2, h5, h6, h7, h10, h11, h12, h13, h14, h17⟩ := e0_Mo_measure
  obtain ⟨h20, h21, h22, h25, h26, h27, h30, h31, h32, h35, h36, h37⟩ := e1_Mo_measure
  obtain ⟨h40, h43, h44, h45, h48, h49, h50, h53, h54, h55, h58, h61⟩ := e2_Mo_measure
  obtain ⟨h64, h65, h66, h67, h68, h71, h74, h75, h76, h79, h80, h83⟩ := e3_Mo_measure
  obtain ⟨h84, h87, h88, h89, h92, h93, h96, h97, h98, h101, h102, h103⟩ := e4_Mo_measure
  obtain ⟨h104, h105, h106, h109, h112, h113, h114, h115, h118, h121⟩ := e5_Mo_measure
  refine ac (s_aldn (M := M_Mo_measure) (pc := 0) (k := 0) h0) ?_
  refine ac (s_lconst (M := M_Mo_measure) (pc := 1) h1 (by decide)) ?_
  refine ac (s_putl (M := M_Mo_measure) (pc := 2) (T := TX2) (N := 6) (ty0 := tyX2) h2 ⟨rfl, in_X2, by decide, wd78, tyX2_ok, nmX2, (Or.inl rfl)⟩ rfl) ?_
  refine ac (s_aldn (M := M_Mo_measure) (pc := 5) (k := 0) h5) ?_
  refine ac (s_lconst (M := M_Mo_measure) (pc := 6) h6 (by decide)) ?_
  refine ac (s_putl (M := M_Mo_measure) (pc := 7) (T := TX2) (N := 6) (ty0 := tyX2) h7 ⟨rfl, in_X2, by decide, wd81, tyX2_ok, nmX2, (Or.inl rfl)⟩ rfl) ?_
  refine ac (s_iconst (M := M_Mo_measure) (pc := 10) h10 rfl) ?_
  refine ac (s_istn (M := M_Mo_measure) (pc := 11) (k := 1) h11 (by decide)) ?_
  refine ac (s_ildn (M := M_Mo_measure) (pc := 12) (k := 1) h12) ?_
  refine ac (s_aldn (M := M_Mo_measure) (pc := 13) (k := 0) h13) ?_
  refine ac (s_get (M := M_Mo_measure) (pc := 14) (T := TX2) (N := 6) h14 rfl in_X2 (by decide) wd72) ?_
  refine ac (s_icmp_ge (M := M_Mo_measure) (pc := 17) h17 (by decide)) ?_
  refine ac (s_aldn (M := M_Mo_measure) (pc := 20) (k := 0) h20) ?_
  refine ac (s_dup (M := M_Mo_measure) (pc := 21) h21) ?_
  refine ac (s_get (M := M_Mo_measure) (pc := 22) (T := TX2) (N := 6) h22 rfl in_X2 (by decide) wd78) ?_
  refine ac (s_aldn (M := M_Mo_measure) (pc := 25) (k := 0) h25) ?_
  refine ac (s_ildn (M := M_Mo_measure) (pc := 26) (k := 1) h26) ?_
  refine ac (s_callV (M := M_Mo_measure) (pc := 27) (tz_Mo rfl) h27 q_Mo_at wd262 wd263 wd264 rfl (T := TX2) (N := 6) rfl) ?_
  refine ac (s_i2l (M := M_Mo_measure) (pc := 30) h30) ?_
  refine ac (s_lmul (M := M_Mo_measure) (pc := 31) h31) ?_
  refine ac (s_putl (M := M_Mo_measure) (pc := 32) (T := TX2) (N := 6) (ty0 := tyX2) h32 ⟨rfl, in_X2, by decide, wd78, tyX2_ok, nmX2, (Or.inl rfl)⟩ rfl) ?_
  refine ac (s_ildn (M := M_Mo_measure) (pc := 35) (k := 1) h35) ?_
  refine ac (s_aldn (M := M_Mo_measure) (pc := 36) (k := 0) h36) ?_
  refine ac (s_callV (M := M_Mo_measure) (pc := 37) (tz_Mo rfl) h37 q_Mo_bases wd254 wd255 wd256 rfl (T := TX2) (N := 6) rfl) ?_
  refine ac (s_icmp_ge (M := M_Mo_measure) (pc := 40) h40 (by decide)) ?_
  refine ac (s_aldn (M := M_Mo_measure) (pc := 43) (k := 0) h43) ?_
  refine ac (s_dup (M := M_Mo_measure) (pc := 44) h44) ?_
  refine ac (s_get (M := M_Mo_measure) (pc := 45) (T := TX2) (N := 6) h45 rfl in_X2 (by decide) wd81) ?_
  refine ac (s_aldn (M := M_Mo_measure) (pc := 48) (k := 0) h48) ?_
  refine ac (s_ildn (M := M_Mo_measure) (pc := 49) (k := 1) h49) ?_
  refine ac (s_callV (M := M_Mo_measure) (pc := 50) (tz_Mo rfl) h50 q_Mo_at wd262 wd263 wd264 rfl (T := TX2) (N := 6) rfl) ?_
  refine ac (s_i2l (M := M_Mo_measure) (pc := 53) h53) ?_
  refine ac (s_lmul (M := M_Mo_measure) (pc := 54) h54) ?_
  refine ac (s_putl (M := M_Mo_measure) (pc := 55) (T := TX2) (N := 6) (ty0 := tyX2) h55 ⟨rfl, in_X2, by decide, wd81, tyX2_ok, nmX2, (Or.inl rfl)⟩ rfl) ?_
  refine ac (s_iinc (M := M_Mo_measure) (pc := 58) h58 rfl (by decide)) ?_
  refine ac (s_goto (M := M_Mo_measure) (pc := 61) h61 (by decide)) ?_
  refine ac (s_iconst (M := M_Mo_measure) (pc := 64) h64 rfl) ?_
  refine ac (s_istn (M := M_Mo_measure) (pc := 65) (k := 1) h65 (by decide)) ?_
  refine ac (s_ildn (M := M_Mo_measure) (pc := 66) (k := 1) h66) ?_
  refine ac (s_aldn (M := M_Mo_measure) (pc := 67) (k := 0) h67) ?_
  refine ac (s_get (M := M_Mo_measure) (pc := 68) (T := TX2) (N := 6) h68 rfl in_X2 (by decide) wd72) ?_
  refine ac (s_icmp_ge (M := M_Mo_measure) (pc := 71) h71 (by decide)) ?_
  refine ac (s_ildn (M := M_Mo_measure) (pc := 74) (k := 1) h74) ?_
  refine ac (s_aldn (M := M_Mo_measure) (pc := 75) (k := 0) h75) ?_
  refine ac (s_get (M := M_Mo_measure) (pc := 76) (T := TX2) (N := 6) h76 rfl in_X2 (by decide) wd71) ?_
  refine ac (s_alen (M := M_Mo_measure) (pc := 79) h79) ?_
  refine ac (s_icmp_ge (M := M_Mo_measure) (pc := 80) h80 (by decide)) ?_
  refine ac (s_aldn (M := M_Mo_measure) (pc := 83) (k := 0) h83) ?_
  refine ac (s_get (M := M_Mo_measure) (pc := 84) (T := TX2) (N := 6) h84 rfl in_X2 (by decide) wd78) ?_
  refine ac (s_aldn (M := M_Mo_measure) (pc := 87) (k := 0) h87) ?_
  refine ac (s_ildn (M := M_Mo_measure) (pc := 88) (k := 1) h88) ?_
  refine ac (s_callV (M := M_Mo_measure) (pc := 89) (tz_Mo rfl) h89 q_Mo_at wd262 wd263 wd264 rfl (T := TX2) (N := 6) rfl) ?_
  refine ac (s_i2l (M := M_Mo_measure) (pc := 92) h92) ?_
  refine ac (s_callN (M := M_Mo_measure) (pc := 93) (k := 0) (tz_Mo rfl) h93 q_R_floorQuotient rfl wd267) ?_
  refine ac (s_lstn (M := M_Mo_measure) (pc := 96) (k := 2) h96 (by decide)) ?_
  refine ac (s_aldn (M := M_Mo_measure) (pc := 97) (k := 0) h97) ?_
  refine ac (s_get (M := M_Mo_measure) (pc := 98) (T := TX2) (N := 6) h98 rfl in_X2 (by decide) wd71) ?_
  refine ac (s_ildn (M := M_Mo_measure) (pc := 101) (k := 1) h101) ?_
  refine ac (s_lldn (M := M_Mo_measure) (pc := 102) (k := 2) h102) ?_
  refine ac (s_lldn (M := M_Mo_measure) (pc := 103) (k := 2) h103) ?_
  refine ac (s_aldn (M := M_Mo_measure) (pc := 104) (k := 0) h104) ?_
  refine ac (s_ildn (M := M_Mo_measure) (pc := 105) (k := 1) h105) ?_
  refine ac (s_callV (M := M_Mo_measure) (pc := 106) (tz_Mo rfl) h106 q_Mo_at wd262 wd263 wd264 rfl (T := TX2) (N := 6) rfl) ?_
  refine ac (s_callN (M := M_Mo_measure) (pc := 109) (k := 1) (tz_Mo rfl) h109 q_R_inverseOf rfl wd273) ?_
  refine ac (s_i2l (M := M_Mo_measure) (pc := 112) h112) ?_
  refine ac (s_lmul (M := M_Mo_measure) (pc := 113) h113) ?_
  refine ac (s_last (M := M_Mo_measure) (pc := 114) h114) ?_
  refine ac (s_iinc (M := M_Mo_measure) (pc := 115) h115 rfl (by decide)) ?_
  refine ac (s_goto (M := M_Mo_measure) (pc := 118) h118 (by decide)) ?_
  refine ac (s_vret (M := M_Mo_measure) (pc := 121) h121 rfl) ?_
  exact ac_nil
theorem e0_Mo_at : decode prog_4_method_4_code 0 = .ok (.iload_n 1, 1) ∧ decode prog_4_method_4_code 1 = .ok (.ifCond .lt 20, 3) ∧ decode prog_4_method_4_code 4 = .ok (.iload_n 1, 1) ∧ decode prog_4_method_4_code 5 = .ok (.aload_n 0, 1) ∧ decode prog_4_method_4_code 6 = .ok (.getfield 33, 3) ∧ decode prog_4_method_4_code 9 = .ok (.if_icmp .ge 12, 3) ∧ decode prog_4_method_4_code 12 = .ok (.iload_n 1, 1) ∧ decode prog_4_method_4_code 13 = .ok (.aload_n 0, 1) ∧ decode prog_4_method_4_code 14 = .ok (.getfield 9, 3) ∧ decode prog_4_method_4_code 17 = .ok (.arraylength, 1) ∧ decode prog_4_method_4_code 18 = .ok (.if_icmp .lt 7, 3) ∧ decode prog_4_method_4_code 21 = .ok (.iconst 1, 1) := by decide +kernel
theorem e1_Mo_at : decode prog_4_method_4_code 22 = .ok (.goto 9, 3) ∧ decode prog_4_method_4_code 25 = .ok (.aload_n 0, 1) ∧ decode prog_4_method_4_code 26 = .ok (.getfield 9, 3) ∧ decode prog_4_method_4_code 29 = .ok (.iload_n 1, 1) ∧ decode prog_4_method_4_code 30 = .ok (.iaload, 1) ∧ decode prog_4_method_4_code 31 = .ok (.ireturn, 1) := by decide +kernel
def T_Mo_at : TT := [(0, o_ild 1 1), (1, o_if_lt 21 4), (4, o_ild 1 5), (5, o_ald 0 6), (6, o_get 2 2 9), (9, o_icmp_ge 21 12), (12, o_ild 1 13), (13, o_ald 0 14), (14, o_get 2 0 17), (17, o_alen 18), (18, o_icmp_lt 25 21), (21, o_push (.int (iI (1))) 22), (22, o_goto 31), (25, o_ald 0 26), (26, o_get 2 0 29), (29, o_ild 1 30), (30, o_iald 31), (31, o_iret)]
theorem k_Mo_at : ∀ x ∈ T_Mo_at, SO M_Mo_at x.1 x.2 := by
  obtain ⟨h0, h1, h4, h5, h6, h9, h12, h13, h14, h17, h18, h21⟩ := e0_Mo_at
  obtain ⟨h22, h25, h26, h29, h30, h31⟩ := e1_Mo_at
  refine ac (s_ildn (M := M_Mo_at) (pc := 0) (k := 1) h0) ?_
  refine ac (s_if_lt (M := M_Mo_at) (pc := 1) h1 (by decide)) ?_
  refine ac (s_ildn (M := M_Mo_at) (pc := 4) (k := 1) h4) ?_
  refine ac (s_aldn (M := M_Mo_at) (pc := 5) (k := 0) h5) ?_
  refine ac (s_get (M := M_Mo_at) (pc := 6) (T := TX2) (N := 6) h6 rfl in_X2 (by decide) wd72) ?_
  refine ac (s_icmp_ge (M := M_Mo_at) (pc := 9) h9 (by decide)) ?_
  refine ac (s_ildn (M := M_Mo_at) (pc := 12) (k := 1) h12) ?_
  refine ac (s_aldn (M := M_Mo_at) (pc := 13) (k := 0) h13) ?_
  refine ac (s_get (M := M_Mo_at) (pc := 14) (T := TX2) (N := 6) h14 rfl in_X2 (by decide) wd70) ?_
  refine ac (s_alen (M := M_Mo_at) (pc := 17) h17) ?_
  refine ac (s_icmp_lt (M := M_Mo_at) (pc := 18) h18 (by decide)) ?_
  refine ac (s_iconst (M := M_Mo_at) (pc := 21) h21 rfl) ?_
  refine ac (s_goto (M := M_Mo_at) (pc := 22) h22 (by decide)) ?_
  refine ac (s_aldn (M := M_Mo_at) (pc := 25) (k := 0) h25) ?_
  refine ac (s_get (M := M_Mo_at) (pc := 26) (T := TX2) (N := 6) h26 rfl in_X2 (by decide) wd70) ?_
  refine ac (s_ildn (M := M_Mo_at) (pc := 29) (k := 1) h29) ?_
  refine ac (s_iald (M := M_Mo_at) (pc := 30) h30) ?_
  refine ac (s_iret (M := M_Mo_at) (pc := 31) h31 rfl) ?_
  exact ac_nil
theorem e0_Mo_setChecks : decode prog_4_method_14_code 0 = .ok (.aload_n 0, 1) ∧ decode prog_4_method_14_code 1 = .ok (.iload_n 1, 1) ∧ decode prog_4_method_14_code 2 = .ok (.putfield 37, 3) ∧ decode prog_4_method_14_code 5 = .ok (.aload_n 0, 1) ∧ decode prog_4_method_14_code 6 = .ok (.invokevirtual 40, 3) ∧ decode prog_4_method_14_code 9 = .ok (.return_, 1) := by decide +kernel
def T_Mo_setChecks : TT := [(0, o_ald 0 1), (1, o_ild 1 2), (2, o_puti 2 3 5), (5, o_ald 0 6), (6, o_callV M_Mo_measure 2 1 9), (9, o_vret)]
theorem k_Mo_setChecks : ∀ x ∈ T_Mo_setChecks, SO M_Mo_setChecks x.1 x.2 := by
  obtain ⟨h0, h1, h2, h5, h6, h9⟩ := e0_Mo_setChecks
  refine ac (s_aldn (M := M_Mo_setChecks) (pc := 0) (k := 0) h0) ?_
  refine ac (s_ildn (M := M_Mo_setChecks) (pc := 1) (k := 1) h1) ?_
  refine ac (s_puti (M := M_Mo_setChecks) (pc := 2) (T := TX2) (N := 6) (ty0 := tyX2) h2 ⟨rfl, in_X2, by decide, wd76, tyX2_ok, nmX2, (Or.inl rfl)⟩ rfl) ?_
  refine ac (s_aldn (M := M_Mo_setChecks) (pc := 5) (k := 0) h5) ?_
  refine ac (s_callV (M := M_Mo_setChecks) (pc := 6) (tz_Mo rfl) h6 q_Mo_measure wd258 wd260 wd0 rfl (T := TX2) (N := 6) rfl) ?_
  refine ac (s_vret (M := M_Mo_setChecks) (pc := 9) h9 rfl) ?_
  exact ac_nil
theorem e0_Mo_fits : decode prog_4_method_8_code 0 = .ok (.lload_n 1, 1) ∧ decode prog_4_method_8_code 1 = .ok (.aload_n 0, 1) ∧ decode prog_4_method_8_code 2 = .ok (.invokevirtual 45, 3) ∧ decode prog_4_method_8_code 5 = .ok (.lneg, 1) ∧ decode prog_4_method_8_code 6 = .ok (.lcmp, 1) ∧ decode prog_4_method_8_code 7 = .ok (.ifCond .lt 16, 3) ∧ decode prog_4_method_8_code 10 = .ok (.lload_n 1, 1) ∧ decode prog_4_method_8_code 11 = .ok (.aload_n 0, 1) ∧ decode prog_4_method_8_code 12 = .ok (.invokevirtual 45, 3) ∧ decode prog_4_method_8_code 15 = .ok (.lcmp, 1) ∧ decode prog_4_method_8_code 16 = .ok (.ifCond .gt 7, 3) ∧ decode prog_4_method_8_code 19 = .ok (.iconst 1, 1) := by decide +kernel
theorem e1_Mo_fits : decode prog_4_method_8_code 20 = .ok (.goto 4, 3) ∧ decode prog_4_method_8_code 23 = .ok (.iconst 0, 1) ∧ decode prog_4_method_8_code 24 = .ok (.ireturn, 1) := by decide +kernel
def T_Mo_fits : TT := [(0, o_lld 1 1), (1, o_ald 0 2), (2, o_callV M_Mo_half 2 1 5), (5, o_lneg 6), (6, o_lc_lt 23 10), (10, o_lld 1 11), (11, o_ald 0 12), (12, o_callV M_Mo_half 2 1 15), (15, o_lc_gt 23 19), (19, o_push (.int (iI (1))) 20), (20, o_goto 24), (23, o_push (.int (iI (0))) 24), (24, o_zret)]
theorem k_Mo_fits : ∀ x ∈ T_Mo_fits, SO M_Mo_fits x.1 x.2 := by
  obtain ⟨h0, h1, h2, h5, h6, h7, h10, h11, h12, h15, h16, h19⟩ := e0_Mo_fits
  obtain ⟨h20, h23, h24⟩ := e1_Mo_fits
  refine ac (s_lldn (M := M_Mo_fits) (pc := 0) (k := 1) h0) ?_
  refine ac (s_aldn (M := M_Mo_fits) (pc := 1) (k := 0) h1) ?_
  refine ac (s_callV (M := M_Mo_fits) (pc := 2) (tz_Mo rfl) h2 q_Mo_half wd342 wd343 wd344 rfl (T := TX2) (N := 6) rfl) ?_
  refine ac (s_lneg (M := M_Mo_fits) (pc := 5) h5) ?_
  refine ac (s_lc_lt (M := M_Mo_fits) (pc := 6) h6 h7 (by decide)) ?_
  refine ac (s_lldn (M := M_Mo_fits) (pc := 10) (k := 1) h10) ?_
  refine ac (s_aldn (M := M_Mo_fits) (pc := 11) (k := 0) h11) ?_
  refine ac (s_callV (M := M_Mo_fits) (pc := 12) (tz_Mo rfl) h12 q_Mo_half wd342 wd343 wd344 rfl (T := TX2) (N := 6) rfl) ?_
  refine ac (s_lc_gt (M := M_Mo_fits) (pc := 15) h15 h16 (by decide)) ?_
  refine ac (s_iconst (M := M_Mo_fits) (pc := 19) h19 rfl) ?_
  refine ac (s_goto (M := M_Mo_fits) (pc := 20) h20 (by decide)) ?_
  refine ac (s_iconst (M := M_Mo_fits) (pc := 23) h23 rfl) ?_
  refine ac (s_zret (M := M_Mo_fits) (pc := 24) h24 rfl) ?_
  exact ac_nil
theorem e0_Mo_half : decode prog_4_method_7_code 0 = .ok (.aload_n 0, 1) ∧ decode prog_4_method_7_code 1 = .ok (.getfield 23, 3) ∧ decode prog_4_method_7_code 4 = .ok (.lconst 1, 1) ∧ decode prog_4_method_7_code 5 = .ok (.lsub, 1) ∧ decode prog_4_method_7_code 6 = .ok (.ldc2_w 43, 3) ∧ decode prog_4_method_7_code 9 = .ok (.ldiv, 1) ∧ decode prog_4_method_7_code 10 = .ok (.lreturn, 1) := by decide +kernel
def T_Mo_half : TT := [(0, o_ald 0 1), (1, o_get 2 5 4), (4, o_push (.long (lI 1)) 5), (5, o_lsub 6), (6, o_push (.long (lI (2))) 9), (9, o_ldiv 10), (10, o_lret)]
theorem k_Mo_half : ∀ x ∈ T_Mo_half, SO M_Mo_half x.1 x.2 := by
  obtain ⟨h0, h1, h4, h5, h6, h9, h10⟩ := e0_Mo_half
  refine ac (s_aldn (M := M_Mo_half) (pc := 0) (k := 0) h0) ?_
  refine ac (s_get (M := M_Mo_half) (pc := 1) (T := TX2) (N := 6) h1 rfl in_X2 (by decide) wd81) ?_
  refine ac (s_lconst (M := M_Mo_half) (pc := 4) h4 (by decide)) ?_
  refine ac (s_lsub (M := M_Mo_half) (pc := 5) h5) ?_
  refine ac (s_ldc2 (M := M_Mo_half) (pc := 6) h6 wd346) ?_
  refine ac (s_ldiv (M := M_Mo_half) (pc := 9) h9) ?_
  refine ac (s_lret (M := M_Mo_half) (pc := 10) h10 rfl) ?_
  exact ac_nil
theorem e0_Mo_weightAt : decode prog_4_method_5_code 0 = .ok (.iload_n 1, 1) ∧ decode prog_4_method_5_code 1 = .ok (.ifCond .lt 20, 3) ∧ decode prog_4_method_5_code 4 = .ok (.iload_n 1, 1) ∧ decode prog_4_method_5_code 5 = .ok (.aload_n 0, 1) ∧ decode prog_4_method_5_code 6 = .ok (.getfield 33, 3) ∧ decode prog_4_method_5_code 9 = .ok (.if_icmp .ge 12, 3) ∧ decode prog_4_method_5_code 12 = .ok (.iload_n 1, 1) ∧ decode prog_4_method_5_code 13 = .ok (.aload_n 0, 1) ∧ decode prog_4_method_5_code 14 = .ok (.getfield 15, 3) ∧ decode prog_4_method_5_code 17 = .ok (.arraylength, 1) ∧ decode prog_4_method_5_code 18 = .ok (.if_icmp .lt 7, 3) ∧ decode prog_4_method_5_code 21 = .ok (.lconst 0, 1) := by decide +kernel
theorem e1_Mo_weightAt : decode prog_4_method_5_code 22 = .ok (.goto 9, 3) ∧ decode prog_4_method_5_code 25 = .ok (.aload_n 0, 1) ∧ decode prog_4_method_5_code 26 = .ok (.getfield 15, 3) ∧ decode prog_4_method_5_code 29 = .ok (.iload_n 1, 1) ∧ decode prog_4_method_5_code 30 = .ok (.laload, 1) ∧ decode prog_4_method_5_code 31 = .ok (.lreturn, 1) := by decide +kernel
def T_Mo_weightAt : TT := [(0, o_ild 1 1), (1, o_if_lt 21 4), (4, o_ild 1 5), (5, o_ald 0 6), (6, o_get 2 2 9), (9, o_icmp_ge 21 12), (12, o_ild 1 13), (13, o_ald 0 14), (14, o_get 2 1 17), (17, o_alen 18), (18, o_icmp_lt 25 21), (21, o_push (.long (lI 0)) 22), (22, o_goto 31), (25, o_ald 0 26), (26, o_get 2 1 29), (29, o_ild 1 30), (30, o_lald 31), (31, o_lret)]
theorem k_Mo_weightAt : ∀ x ∈ T_Mo_weightAt, SO M_Mo_weightAt x.1 x.2 := by
  obtain ⟨h0, h1, h4, h5, h6, h9, h12, h13, h14, h17, h18, h21⟩ := e0_Mo_weightAt
  obtain ⟨h22, h25, h26, h29, h30, h31⟩ := e1_Mo_weightAt
  refine ac (s_ildn (M := M_Mo_weightAt) (pc := 0) (k := 1) h0) ?_
  refine ac (s_if_lt (M := M_Mo_weightAt) (pc := 1) h1 (by decide)) ?_
  refine ac (s_ildn (M := M_Mo_weightAt) (pc := 4) (k := 1) h4) ?_
  refine ac (s_aldn (M := M_Mo_weightAt) (pc := 5) (k := 0) h5) ?_
  refine ac (s_get (M := M_Mo_weightAt) (pc := 6) (T := TX2) (N := 6) h6 rfl in_X2 (by decide) wd72) ?_
  refine ac (s_icmp_ge (M := M_Mo_weightAt) (pc := 9) h9 (by decide)) ?_
  refine ac (s_ildn (M := M_Mo_weightAt) (pc := 12) (k := 1) h12) ?_
  refine ac (s_aldn (M := M_Mo_weightAt) (pc := 13) (k := 0) h13) ?_
  refine ac (s_get (M := M_Mo_weightAt) (pc := 14) (T := TX2) (N := 6) h14 rfl in_X2 (by decide) wd71) ?_
  refine ac (s_alen (M := M_Mo_weightAt) (pc := 17) h17) ?_
  refine ac (s_icmp_lt (M := M_Mo_weightAt) (pc := 18) h18 (by decide)) ?_
  refine ac (s_lconst (M := M_Mo_weightAt) (pc := 21) h21 (by decide)) ?_
  refine ac (s_goto (M := M_Mo_weightAt) (pc := 22) h22 (by decide)) ?_
  refine ac (s_aldn (M := M_Mo_weightAt) (pc := 25) (k := 0) h25) ?_
  refine ac (s_get (M := M_Mo_weightAt) (pc := 26) (T := TX2) (N := 6) h26 rfl in_X2 (by decide) wd71) ?_
  refine ac (s_ildn (M := M_Mo_weightAt) (pc := 29) (k := 1) h29) ?_
  refine ac (s_lald (M := M_Mo_weightAt) (pc := 30) h30) ?_
  refine ac (s_lret (M := M_Mo_weightAt) (pc := 31) h31 rfl) ?_
  exact ac_nil
theorem e0_Mo_copyFrom : decode prog_4_method_2_code 0 = .ok (.aload_n 1, 1) ∧ decode prog_4_method_2_code 1 = .ok (.getfield 9, 3) ∧ decode prog_4_method_2_code 4 = .ok (.aload_n 0, 1) ∧ decode prog_4_method_2_code 5 = .ok (.getfield 9, 3) ∧ decode prog_4_method_2_code 8 = .ok (.invokestatic 26, 3) ∧ decode prog_4_method_2_code 11 = .ok (.aload_n 1, 1) ∧ decode prog_4_method_2_code 12 = .ok (.getfield 15, 3) ∧ decode prog_4_method_2_code 15 = .ok (.aload_n 0, 1) ∧ decode prog_4_method_2_code 16 = .ok (.getfield 15, 3) ∧ decode prog_4_method_2_code 19 = .ok (.invokestatic 30, 3) ∧ decode prog_4_method_2_code 22 = .ok (.aload_n 0, 1) ∧ decode prog_4_method_2_code 23 = .ok (.aload_n 1, 1) := by decide +kernel
theorem e1_Mo_copyFrom : decode prog_4_method_2_code 24 = .ok (.getfield 33, 3) ∧ decode prog_4_method_2_code 27 = .ok (.putfield 33, 3) ∧ decode prog_4_method_2_code 30 = .ok (.aload_n 0, 1) ∧ decode prog_4_method_2_code 31 = .ok (.aload_n 1, 1) ∧ decode prog_4_method_2_code 32 = .ok (.getfield 37, 3) ∧ decode prog_4_method_2_code 35 = .ok (.putfield 37, 3) ∧ decode prog_4_method_2_code 38 = .ok (.aload_n 0, 1) ∧ decode prog_4_method_2_code 39 = .ok (.aload_n 1, 1) ∧ decode prog_4_method_2_code 40 = .ok (.getfield 19, 3) ∧ decode prog_4_method_2_code 43 = .ok (.putfield 19, 3) ∧ decode prog_4_method_2_code 46 = .ok (.aload_n 0, 1) ∧ decode prog_4_method_2_code 47 = .ok (.aload_n 1, 1) := by decide +kernel
theorem e2_Mo_copyFrom : decode prog_4_method_2_code 48 = .ok (.getfield 23, 3) ∧ decode prog_4_method_2_code 51 = .ok (.putfield 23, 3) ∧ decode prog_4_method_2_code 54 = .ok (.return_, 1) := by decide +kernel
def T_Mo_copyFrom : TT := [(0, o_ald 1 1), (1, o_get 2 0 4), (4, o_ald 0 5), (5, o_get 2 0 8), (8, o_callN M_R_copyRow_AIAI 2 11), (11, o_ald 1 12), (12, o_get 2 1 15), (15, o_ald 0 16), (16, o_get 2 1 19), (19, o_callN M_R_copyRow_AJAJ 2 22), (22, o_ald 0 23), (23, o_ald 1 24), (24, o_get 2 2 27), (27, o_puti 2 2 30), (30, o_ald 0 31), (31, o_ald 1 32), (32, o_get 2 3 35), (35, o_puti 2 3 38), (38, o_ald 0 39), (39, o_ald 1 40), (40, o_get 2 4 43), (43, o_putl 2 4 46), (46, o_ald 0 47), (47, o_ald 1 48), (48, o_get 2 5 51), (51, o_putl 2 5 54), (54, o_vret)]
theorem k_Mo_copyFrom : ∀ x ∈ T_Mo_copyFrom, SO M_Mo_copyFrom x.1 x.2 := by
  obtain ⟨h0, h1, h4, h5, h8, h11, h12, h15, h16, h19, h22, h23⟩ := e0_Mo_copyFrom
  obtain ⟨h24, h27, h30, h31, h32, h35, h38, h39, h40, h43, h46, h47⟩ := e1_Mo_copyFrom
  obtain ⟨h48, h51, h54⟩ := e2_Mo_copyFrom
  refine ac (s_aldn (M := M_Mo_copyFrom) (pc := 0) (k := 1) h0) ?_
  refine ac (s_get (M := M_Mo_copyFrom) (pc := 1) (T := TX2) (N := 6) h1 rfl in_X2 (by decide) wd70) ?_
  refine ac (s_aldn (M := M_Mo_copyFrom) (pc := 4) (k := 0) h4) ?_
  refine ac (s_get (M := M_Mo_copyFrom) (pc := 5) (T := TX2) (N := 6) h5 rfl in_X2 (by decide) wd70) ?_
  refine ac (s_callN (M := M_Mo_copyFrom) (pc := 8) (k := 5) (tz_Mo rfl) h8 q_R_copyRow_AIAI rfl wd576) ?_
  refine ac (s_aldn (M := M_Mo_copyFrom) (pc := 11) (k := 1) h11) ?_
  refine ac (s_get (M := M_Mo_copyFrom) (pc := 12) (T := TX2) (N := 6) h12 rfl in_X2 (by decide) wd71) ?_
  refine ac (s_aldn (M := M_Mo_copyFrom) (pc := 15) (k := 0) h15) ?_
  refine ac (s_get (M := M_Mo_copyFrom) (pc := 16) (T := TX2) (N := 6) h16 rfl in_X2 (by decide) wd71) ?_
  refine ac (s_callN (M := M_Mo_copyFrom) (pc := 19) (k := 6) (tz_Mo rfl) h19 q_R_copyRow_AJAJ rfl wd579) ?_
  refine ac (s_aldn (M := M_Mo_copyFrom) (pc := 22) (k := 0) h22) ?_
  refine ac (s_aldn (M := M_Mo_copyFrom) (pc := 23) (k := 1) h23) ?_
  refine ac (s_get (M := M_Mo_copyFrom) (pc := 24) (T := TX2) (N := 6) h24 rfl in_X2 (by decide) wd72) ?_
  refine ac (s_puti (M := M_Mo_copyFrom) (pc := 27) (T := TX2) (N := 6) (ty0 := tyX2) h27 ⟨rfl, in_X2, by decide, wd72, tyX2_ok, nmX2, (Or.inl rfl)⟩ rfl) ?_
  refine ac (s_aldn (M := M_Mo_copyFrom) (pc := 30) (k := 0) h30) ?_
  refine ac (s_aldn (M := M_Mo_copyFrom) (pc := 31) (k := 1) h31) ?_
  refine ac (s_get (M := M_Mo_copyFrom) (pc := 32) (T := TX2) (N := 6) h32 rfl in_X2 (by decide) wd76) ?_
  refine ac (s_puti (M := M_Mo_copyFrom) (pc := 35) (T := TX2) (N := 6) (ty0 := tyX2) h35 ⟨rfl, in_X2, by decide, wd76, tyX2_ok, nmX2, (Or.inl rfl)⟩ rfl) ?_
  refine ac (s_aldn (M := M_Mo_copyFrom) (pc := 38) (k := 0) h38) ?_
  refine ac (s_aldn (M := M_Mo_copyFrom) (pc := 39) (k := 1) h39) ?_
  refine ac (s_get (M := M_Mo_copyFrom) (pc := 40) (T := TX2) (N := 6) h40 rfl in_X2 (by decide) wd78) ?_
  refine ac (s_putl (M := M_Mo_copyFrom) (pc := 43) (T := TX2) (N := 6) (ty0 := tyX2) h43 ⟨rfl, in_X2, by decide, wd78, tyX2_ok, nmX2, (Or.inl rfl)⟩ rfl) ?_
  refine ac (s_aldn (M := M_Mo_copyFrom) (pc := 46) (k := 0) h46) ?_
  refine ac (s_aldn (M := M_Mo_copyFrom) (pc := 47) (k := 1) h47) ?_
  refine ac (s_get (M := M_Mo_copyFrom) (pc := 48) (T := TX2) (N := 6) h48 rfl in_X2 (by decide) wd81) ?_
  refine ac (s_putl (M := M_Mo_copyFrom) (pc := 51) (T := TX2) (N := 6) (ty0 := tyX2) h51 ⟨rfl, in_X2, by decide, wd81, tyX2_ok, nmX2, (Or.inl rfl)⟩ rfl) ?_
  refine ac (s_vret (M := M_Mo_copyFrom) (pc := 54) h54 rfl) ?_
  exact ac_nil
theorem e0_Mo_clear : decode prog_4_method_3_code 0 = .ok (.aload_n 0, 1) ∧ decode prog_4_method_3_code 1 = .ok (.iconst 0, 1) ∧ decode prog_4_method_3_code 2 = .ok (.putfield 33, 3) ∧ decode prog_4_method_3_code 5 = .ok (.aload_n 0, 1) ∧ decode prog_4_method_3_code 6 = .ok (.iconst 0, 1) ∧ decode prog_4_method_3_code 7 = .ok (.putfield 37, 3) ∧ decode prog_4_method_3_code 10 = .ok (.aload_n 0, 1) ∧ decode prog_4_method_3_code 11 = .ok (.invokevirtual 40, 3) ∧ decode prog_4_method_3_code 14 = .ok (.return_, 1) := by decide +kernel
def T_Mo_clear : TT := [(0, o_ald 0 1), (1, o_push (.int (iI (0))) 2), (2, o_puti 2 2 5), (5, o_ald 0 6), (6, o_push (.int (iI (0))) 7), (7, o_puti 2 3 10), (10, o_ald 0 11), (11, o_callV M_Mo_measure 2 1 14), (14, o_vret)]
theorem k_Mo_clear : ∀ x ∈ T_Mo_clear, SO M_Mo_clear x.1 x.2 := by
  obtain ⟨h0, h1, h2, h5, h6, h7, h10, h11, h14⟩ := e0_Mo_clear
  refine ac (s_aldn (M := M_Mo_clear) (pc := 0) (k := 0) h0) ?_
  refine ac (s_iconst (M := M_Mo_clear) (pc := 1) h1 rfl) ?_
  refine ac (s_puti (M := M_Mo_clear) (pc := 2) (T := TX2) (N := 6) (ty0 := tyX2) h2 ⟨rfl, in_X2, by decide, wd72, tyX2_ok, nmX2, (Or.inl rfl)⟩ rfl) ?_
  refine ac (s_aldn (M := M_Mo_clear) (pc := 5) (k := 0) h5) ?_
  refine ac (s_iconst (M := M_Mo_clear) (pc := 6) h6 rfl) ?_
  refine ac (s_puti (M := M_Mo_clear) (pc := 7) (T := TX2) (N := 6) (ty0 := tyX2) h7 ⟨rfl, in_X2, by decide, wd76, tyX2_ok, nmX2, (Or.inl rfl)⟩ rfl) ?_
  refine ac (s_aldn (M := M_Mo_clear) (pc := 10) (k := 0) h10) ?_
  refine ac (s_callV (M := M_Mo_clear) (pc := 11) (tz_Mo rfl) h11 q_Mo_measure wd258 wd260 wd0 rfl (T := TX2) (N := 6) rfl) ?_
  refine ac (s_vret (M := M_Mo_clear) (pc := 14) h14 rfl) ?_
  exact ac_nil
theorem e0_Mo_tooGreatWith : decode prog_4_method_9_code 0 = .ok (.aload_n 0, 1) ∧ decode prog_4_method_9_code 1 = .ok (.getfield 19, 3) ∧ decode prog_4_method_9_code 4 = .ok (.iload_n 1, 1) ∧ decode prog_4_method_9_code 5 = .ok (.i2l, 1) ∧ decode prog_4_method_9_code 6 = .ok (.lmul, 1) ∧ decode prog_4_method_9_code 7 = .ok (.ldc2_w 49, 3) ∧ decode prog_4_method_9_code 10 = .ok (.lcmp, 1) ∧ decode prog_4_method_9_code 11 = .ok (.ifCond .le 7, 3) ∧ decode prog_4_method_9_code 14 = .ok (.iconst 1, 1) ∧ decode prog_4_method_9_code 15 = .ok (.goto 4, 3) ∧ decode prog_4_method_9_code 18 = .ok (.iconst 0, 1) ∧ decode prog_4_method_9_code 19 = .ok (.ireturn, 1) := by decide +kernel
def T_Mo_tooGreatWith : TT := [(0, o_ald 0 1), (1, o_get 2 4 4), (4, o_ild 1 5), (5, o_i2l 6), (6, o_lmul 7), (7, o_push (.long (lI (1000000000))) 10), (10, o_lc_le 18 14), (14, o_push (.int (iI (1))) 15), (15, o_goto 19), (18, o_push (.int (iI (0))) 19), (19, o_zret)]
theorem k_Mo_tooGreatWith : ∀ x ∈ T_Mo_tooGreatWith, SO M_Mo_tooGreatWith x.1 x.2 := by
  obtain ⟨h0, h1, h4, h5, h6, h7, h10, h11, h14, h15, h18, h19⟩ := e0_Mo_tooGreatWith
  refine ac (s_aldn (M := M_Mo_tooGreatWith) (pc := 0) (k := 0) h0) ?_
  refine ac (s_get (M := M_Mo_tooGreatWith) (pc := 1) (T := TX2) (N := 6) h1 rfl in_X2 (by decide) wd78) ?_
  refine ac (s_ildn (M := M_Mo_tooGreatWith) (pc := 4) (k := 1) h4) ?_
  refine ac (s_i2l (M := M_Mo_tooGreatWith) (pc := 5) h5) ?_
  refine ac (s_lmul (M := M_Mo_tooGreatWith) (pc := 6) h6) ?_
  refine ac (s_ldc2 (M := M_Mo_tooGreatWith) (pc := 7) h7 wd887) ?_
  refine ac (s_lc_le (M := M_Mo_tooGreatWith) (pc := 10) h10 h11 (by decide)) ?_
  refine ac (s_iconst (M := M_Mo_tooGreatWith) (pc := 14) h14 rfl) ?_
  refine ac (s_goto (M := M_Mo_tooGreatWith) (pc := 15) h15 (by decide)) ?_
  refine ac (s_iconst (M := M_Mo_tooGreatWith) (pc := 18) h18 rfl) ?_
  refine ac (s_zret (M := M_Mo_tooGreatWith) (pc := 19) h19 rfl) ?_
  exact ac_nil
theorem e0_Mo_hasCommonWith : decode prog_4_method_10_code 0 = .ok (.iconst 0, 1) ∧ decode prog_4_method_10_code 1 = .ok (.istore_n 2, 1) ∧ decode prog_4_method_10_code 2 = .ok (.iload_n 2, 1) ∧ decode prog_4_method_10_code 3 = .ok (.aload_n 0, 1) ∧ decode prog_4_method_10_code 4 = .ok (.getfield 33, 3) ∧ decode prog_4_method_10_code 7 = .ok (.if_icmp .ge 24, 3) ∧ decode prog_4_method_10_code 10 = .ok (.aload_n 0, 1) ∧ decode prog_4_method_10_code 11 = .ok (.iload_n 2, 1) ∧ decode prog_4_method_10_code 12 = .ok (.invokevirtual 51, 3) ∧ decode prog_4_method_10_code 15 = .ok (.iload_n 1, 1) ∧ decode prog_4_method_10_code 16 = .ok (.invokestatic 55, 3) ∧ decode prog_4_method_10_code 19 = .ok (.iconst 1, 1) := by decide +kernel
theorem e1_Mo_hasCommonWith : decode prog_4_method_10_code 20 = .ok (.if_icmp .le 5, 3) ∧ decode prog_4_method_10_code 23 = .ok (.iconst 1, 1) ∧ decode prog_4_method_10_code 24 = .ok (.ireturn, 1) ∧ decode prog_4_method_10_code 25 = .ok (.iinc 2 1, 3) ∧ decode prog_4_method_10_code 28 = .ok (.goto (-26), 3) ∧ decode prog_4_method_10_code 31 = .ok (.iconst 0, 1) ∧ decode prog_4_method_10_code 32 = .ok (.ireturn, 1) := by decide +kernel
def T_Mo_hasCommonWith : TT := [(0, o_push (.int (iI (0))) 1), (1, o_ist 2 2), (2, o_ild 2 3), (3, o_ald 0 4), (4, o_get 2 2 7), (7, o_icmp_ge 31 10), (10, o_ald 0 11), (11, o_ild 2 12), (12, o_callV M_Mo_at 2 2 15), (15, o_ild 1 16), (16, o_callN M_R_greatestDivisor 2 19), (19, o_push (.int (iI (1))) 20), (20, o_icmp_le 25 23), (23, o_push (.int (iI (1))) 24), (24, o_zret), (25, o_iinc 2 (iI (1)) 28), (28, o_goto 2), (31, o_push (.int (iI (0))) 32), (32, o_zret)]
theorem k_Mo_hasCommonWith : ∀ x ∈ T_Mo_hasCommonWith, SO M_Mo_hasCommonWith x.1 x.2 := by
  obtain ⟨h0, h1, h2, h3, h4, h7, h10, h11, h12, h15, h16, h19⟩ := e0_Mo_hasCommonWith
  obtain ⟨h20, h23, h24, h25, h28, h31, h32⟩ := e1_Mo_hasCommonWith
  refine ac (s_iconst (M := M_Mo_hasCommonWith) (pc := 0) h0 rfl) ?_
  refine ac (s_istn (M := M_Mo_hasCommonWith) (pc := 1) (k := 2) h1 (by decide)) ?_
  refine ac (s_ildn (M := M_Mo_hasCommonWith) (pc := 2) (k := 2) h2) ?_
  refine ac (s_aldn (M := M_Mo_hasCommonWith) (pc := 3) (k := 0) h3) ?_
  refine ac (s_get (M := M_Mo_hasCommonWith) (pc := 4) (T := TX2) (N := 6) h4 rfl in_X2 (by decide) wd72) ?_
  refine ac (s_icmp_ge (M := M_Mo_hasCommonWith) (pc := 7) h7 (by decide)) ?_
  refine ac (s_aldn (M := M_Mo_hasCommonWith) (pc := 10) (k := 0) h10) ?_
  refine ac (s_ildn (M := M_Mo_hasCommonWith) (pc := 11) (k := 2) h11) ?_
  refine ac (s_callV (M := M_Mo_hasCommonWith) (pc := 12) (tz_Mo rfl) h12 q_Mo_at wd262 wd263 wd264 rfl (T := TX2) (N := 6) rfl) ?_
  refine ac (s_ildn (M := M_Mo_hasCommonWith) (pc := 15) (k := 1) h15) ?_
  refine ac (s_callN (M := M_Mo_hasCommonWith) (pc := 16) (k := 9) (tz_Mo rfl) h16 q_R_greatestDivisor rfl wd893) ?_
  refine ac (s_iconst (M := M_Mo_hasCommonWith) (pc := 19) h19 rfl) ?_
  refine ac (s_icmp_le (M := M_Mo_hasCommonWith) (pc := 20) h20 (by decide)) ?_
  refine ac (s_iconst (M := M_Mo_hasCommonWith) (pc := 23) h23 rfl) ?_
  refine ac (s_zret (M := M_Mo_hasCommonWith) (pc := 24) h24 rfl) ?_
  refine ac (s_iinc (M := M_Mo_hasCommonWith) (pc := 25) h25 rfl (by decide)) ?_
  refine ac (s_goto (M := M_Mo_hasCommonWith) (pc := 28) h28 (by decide)) ?_
  refine ac (s_iconst (M := M_Mo_hasCommonWith) (pc := 31) h31 rfl) ?_
  refine ac (s_zret (M := M_Mo_hasCommonWith) (pc := 32) h32 rfl) ?_
  exact ac_nil
theorem e0_Mo_canTake : decode prog_4_method_11_code 0 = .ok (.aload_n 0, 1) ∧ decode prog_4_method_11_code 1 = .ok (.getfield 33, 3) ∧ decode prog_4_method_11_code 4 = .ok (.bipush 6, 2) ∧ decode prog_4_method_11_code 6 = .ok (.if_icmp .ge 23, 3) ∧ decode prog_4_method_11_code 9 = .ok (.aload_n 0, 1) ∧ decode prog_4_method_11_code 10 = .ok (.iload_n 1, 1) ∧ decode prog_4_method_11_code 11 = .ok (.invokevirtual 59, 3) ∧ decode prog_4_method_11_code 14 = .ok (.ifCond .ne 15, 3) ∧ decode prog_4_method_11_code 17 = .ok (.aload_n 0, 1) ∧ decode prog_4_method_11_code 18 = .ok (.iload_n 1, 1) ∧ decode prog_4_method_11_code 19 = .ok (.invokevirtual 63, 3) ∧ decode prog_4_method_11_code 22 = .ok (.ifCond .ne 7, 3) := by decide +kernel
theorem e1_Mo_canTake : decode prog_4_method_11_code 25 = .ok (.iconst 1, 1) ∧ decode prog_4_method_11_code 26 = .ok (.goto 4, 3) ∧ decode prog_4_method_11_code 29 = .ok (.iconst 0, 1) ∧ decode prog_4_method_11_code 30 = .ok (.ireturn, 1) := by decide +kernel
def T_Mo_canTake : TT := [(0, o_ald 0 1), (1, o_get 2 2 4), (4, o_push (.int (iI (6))) 6), (6, o_icmp_ge 29 9), (9, o_ald 0 10), (10, o_ild 1 11), (11, o_callV M_Mo_tooGreatWith 2 2 14), (14, o_if_ne 29 17), (17, o_ald 0 18), (18, o_ild 1 19), (19, o_callV M_Mo_hasCommonWith 2 2 22), (22, o_if_ne 29 25), (25, o_push (.int (iI (1))) 26), (26, o_goto 30), (29, o_push (.int (iI (0))) 30), (30, o_zret)]
theorem k_Mo_canTake : ∀ x ∈ T_Mo_canTake, SO M_Mo_canTake x.1 x.2 := by
  obtain ⟨h0, h1, h4, h6, h9, h10, h11, h14, h17, h18, h19, h22⟩ := e0_Mo_canTake
  obtain ⟨h25, h26, h29, h30⟩ := e1_Mo_canTake
  refine ac (s_aldn (M := M_Mo_canTake) (pc := 0) (k := 0) h0) ?_
  refine ac (s_get (M := M_Mo_canTake) (pc := 1) (T := TX2) (N := 6) h1 rfl in_X2 (by decide) wd72) ?_
  refine ac (s_bipush (M := M_Mo_canTake) (pc := 4) h4 (by decide)) ?_
  refine ac (s_icmp_ge (M := M_Mo_canTake) (pc := 6) h6 (by decide)) ?_
  refine ac (s_aldn (M := M_Mo_canTake) (pc := 9) (k := 0) h9) ?_
  refine ac (s_ildn (M := M_Mo_canTake) (pc := 10) (k := 1) h10) ?_
  refine ac (s_callV (M := M_Mo_canTake) (pc := 11) (tz_Mo rfl) h11 q_Mo_tooGreatWith wd1251 wd884 wd885 rfl (T := TX2) (N := 6) rfl) ?_
  refine ac (s_if_ne (M := M_Mo_canTake) (pc := 14) h14 (by decide)) ?_
  refine ac (s_aldn (M := M_Mo_canTake) (pc := 17) (k := 0) h17) ?_
  refine ac (s_ildn (M := M_Mo_canTake) (pc := 18) (k := 1) h18) ?_
  refine ac (s_callV (M := M_Mo_canTake) (pc := 19) (tz_Mo rfl) h19 q_Mo_hasCommonWith wd1252 wd889 wd890 rfl (T := TX2) (N := 6) rfl) ?_
  refine ac (s_if_ne (M := M_Mo_canTake) (pc := 22) h22 (by decide)) ?_
  refine ac (s_iconst (M := M_Mo_canTake) (pc := 25) h25 rfl) ?_
  refine ac (s_goto (M := M_Mo_canTake) (pc := 26) h26 (by decide)) ?_
  refine ac (s_iconst (M := M_Mo_canTake) (pc := 29) h29 rfl) ?_
  refine ac (s_zret (M := M_Mo_canTake) (pc := 30) h30 rfl) ?_
  exact ac_nil
theorem e0_Mo_tellWithout : decode prog_4_method_16_code 0 = .ok (.lload_n 2, 1) ∧ decode prog_4_method_16_code 1 = .ok (.aload_n 0, 1) ∧ decode prog_4_method_16_code 2 = .ok (.getfield 19, 3) ∧ decode prog_4_method_16_code 5 = .ok (.aload_n 0, 1) ∧ decode prog_4_method_16_code 6 = .ok (.iload_n 1, 1) ∧ decode prog_4_method_16_code 7 = .ok (.invokevirtual 51, 3) ∧ decode prog_4_method_16_code 10 = .ok (.i2l, 1) ∧ decode prog_4_method_16_code 11 = .ok (.invokestatic 70, 3) ∧ decode prog_4_method_16_code 14 = .ok (.invokestatic 78, 3) ∧ decode prog_4_method_16_code 17 = .ok (.lload_n 2, 1) ∧ decode prog_4_method_16_code 18 = .ok (.lcmp, 1) ∧ decode prog_4_method_16_code 19 = .ok (.ifCond .ne 7, 3) := by decide +kernel
theorem e1_Mo_tellWithout : decode prog_4_method_16_code 22 = .ok (.iconst 1, 1) ∧ decode prog_4_method_16_code 23 = .ok (.goto 4, 3) ∧ decode prog_4_method_16_code 26 = .ok (.iconst 0, 1) ∧ decode prog_4_method_16_code 27 = .ok (.ireturn, 1) := by decide +kernel
def T_Mo_tellWithout : TT := [(0, o_lld 2 1), (1, o_ald 0 2), (2, o_get 2 4 5), (5, o_ald 0 6), (6, o_ild 1 7), (7, o_callV M_Mo_at 2 2 10), (10, o_i2l 11), (11, o_callN M_R_floorQuotient 2 14), (14, o_callN M_R_numberIn 2 17), (17, o_lld 2 18), (18, o_lc_ne 26 22), (22, o_push (.int (iI (1))) 23), (23, o_goto 27), (26, o_push (.int (iI (0))) 27), (27, o_zret)]
theorem k_Mo_tellWithout : ∀ x ∈ T_Mo_tellWithout, SO M_Mo_tellWithout x.1 x.2 := by
  obtain ⟨h0, h1, h2, h5, h6, h7, h10, h11, h14, h17, h18, h19⟩ := e0_Mo_tellWithout
  obtain ⟨h22, h23, h26, h27⟩ := e1_Mo_tellWithout
  refine ac (s_lldn (M := M_Mo_tellWithout) (pc := 0) (k := 2) h0) ?_
  refine ac (s_aldn (M := M_Mo_tellWithout) (pc := 1) (k := 0) h1) ?_
  refine ac (s_get (M := M_Mo_tellWithout) (pc := 2) (T := TX2) (N := 6) h2 rfl in_X2 (by decide) wd78) ?_
  refine ac (s_aldn (M := M_Mo_tellWithout) (pc := 5) (k := 0) h5) ?_
  refine ac (s_ildn (M := M_Mo_tellWithout) (pc := 6) (k := 1) h6) ?_
  refine ac (s_callV (M := M_Mo_tellWithout) (pc := 7) (tz_Mo rfl) h7 q_Mo_at wd262 wd263 wd264 rfl (T := TX2) (N := 6) rfl) ?_
  refine ac (s_i2l (M := M_Mo_tellWithout) (pc := 10) h10) ?_
  refine ac (s_callN (M := M_Mo_tellWithout) (pc := 11) (k := 0) (tz_Mo rfl) h11 q_R_floorQuotient rfl wd267) ?_
  refine ac (s_callN (M := M_Mo_tellWithout) (pc := 14) (k := 12) (tz_Mo rfl) h14 q_R_numberIn rfl wd538) ?_
  refine ac (s_lldn (M := M_Mo_tellWithout) (pc := 17) (k := 2) h17) ?_
  refine ac (s_lc_ne (M := M_Mo_tellWithout) (pc := 18) h18 h19 (by decide)) ?_
  refine ac (s_iconst (M := M_Mo_tellWithout) (pc := 22) h22 rfl) ?_
  refine ac (s_goto (M := M_Mo_tellWithout) (pc := 23) h23 (by decide)) ?_
  refine ac (s_iconst (M := M_Mo_tellWithout) (pc := 26) h26 rfl) ?_
  refine ac (s_zret (M := M_Mo_tellWithout) (pc := 27) h27 rfl) ?_
  exact ac_nil
theorem e0_Mo_remove : decode prog_4_method_13_code 0 = .ok (.iload_n 1, 1) ∧ decode prog_4_method_13_code 1 = .ok (.ifCond .lt 11, 3) ∧ decode prog_4_method_13_code 4 = .ok (.iload_n 1, 1) ∧ decode prog_4_method_13_code 5 = .ok (.aload_n 0, 1) ∧ decode prog_4_method_13_code 6 = .ok (.getfield 33, 3) ∧ decode prog_4_method_13_code 9 = .ok (.if_icmp .lt 4, 3) ∧ decode prog_4_method_13_code 12 = .ok (.return_, 1) ∧ decode prog_4_method_13_code 13 = .ok (.iload_n 1, 1) ∧ decode prog_4_method_13_code 14 = .ok (.aload_n 0, 1) ∧ decode prog_4_method_13_code 15 = .ok (.invokevirtual 66, 3) ∧ decode prog_4_method_13_code 18 = .ok (.if_icmp .lt 13, 3) ∧ decode prog_4_method_13_code 21 = .ok (.aload_n 0, 1) := by decide +kernel
theorem e1_Mo_remove : decode prog_4_method_13_code 22 = .ok (.dup, 1) ∧ decode prog_4_method_13_code 23 = .ok (.getfield 37, 3) ∧ decode prog_4_method_13_code 26 = .ok (.iconst 1, 1) ∧ decode prog_4_method_13_code 27 = .ok (.isub, 1) ∧ decode prog_4_method_13_code 28 = .ok (.putfield 37, 3) ∧ decode prog_4_method_13_code 31 = .ok (.iload_n 1, 1) ∧ decode prog_4_method_13_code 32 = .ok (.istore_n 2, 1) ∧ decode prog_4_method_13_code 33 = .ok (.iload_n 2, 1) ∧ decode prog_4_method_13_code 34 = .ok (.iconst 1, 1) ∧ decode prog_4_method_13_code 35 = .ok (.iadd, 1) ∧ decode prog_4_method_13_code 36 = .ok (.aload_n 0, 1) ∧ decode prog_4_method_13_code 37 = .ok (.getfield 33, 3) := by decide +kernel
theorem e2_Mo_remove : decode prog_4_method_13_code 40 = .ok (.if_icmp .ge 34, 3) ∧ decode prog_4_method_13_code 43 = .ok (.iload_n 2, 1) ∧ decode prog_4_method_13_code 44 = .ok (.iconst 1, 1) ∧ decode prog_4_method_13_code 45 = .ok (.iadd, 1) ∧ decode prog_4_method_13_code 46 = .ok (.aload_n 0, 1) ∧ decode prog_4_method_13_code 47 = .ok (.getfield 9, 3) ∧ decode prog_4_method_13_code 50 = .ok (.arraylength, 1) ∧ decode prog_4_method_13_code 51 = .ok (.if_icmp .ge 23, 3) ∧ decode prog_4_method_13_code 54 = .ok (.aload_n 0, 1) ∧ decode prog_4_method_13_code 55 = .ok (.getfield 9, 3) ∧ decode prog_4_method_13_code 58 = .ok (.iload_n 2, 1) ∧ decode prog_4_method_13_code 59 = .ok (.aload_n 0, 1) := by decide +kernel
theorem e3_Mo_remove : decode prog_4_method_13_code 60 = .ok (.getfield 9, 3) ∧ decode prog_4_method_13_code 63 = .ok (.iload_n 2, 1) ∧ decode prog_4_method_13_code 64 = .ok (.iconst 1, 1) ∧ decode prog_4_method_13_code 65 = .ok (.iadd, 1) ∧ decode prog_4_method_13_code 66 = .ok (.iaload, 1) ∧ decode prog_4_method_13_code 67 = .ok (.iastore, 1) ∧ decode prog_4_method_13_code 68 = .ok (.iinc 2 1, 3) ∧ decode prog_4_method_13_code 71 = .ok (.goto (-38), 3) ∧ decode prog_4_method_13_code 74 = .ok (.aload_n 0, 1) ∧ decode prog_4_method_13_code 75 = .ok (.dup, 1) ∧ decode prog_4_method_13_code 76 = .ok (.getfield 33, 3) ∧ decode prog_4_method_13_code 79 = .ok (.iconst 1, 1) := by decide +kernel
theorem e4_Mo_remove : decode prog_4_method_13_code 80 = .ok (.isub, 1) ∧ decode prog_4_method_13_code 81 = .ok (.putfield 33, 3) ∧ decode prog_4_method_13_code 84 = .ok (.aload_n 0, 1) ∧ decode prog_4_method_13_code 85 = .ok (.invokevirtual 40, 3) ∧ decode prog_4_method_13_code 88 = .ok (.return_, 1) := by decide +kernel
def T_Mo_remove : TT := [(0, o_ild 1 1), (1, o_if_lt 12 4), (4, o_ild 1 5), (5, o_ald 0 6), (6, o_get 2 2 9), (9, o_icmp_lt 13 12), (12, o_vret), (13, o_ild 1 14), (14, o_ald 0 15), (15, o_callV M_Mo_bases 2 1 18), (18, o_icmp_lt 31 21), (21, o_ald 0 22), (22, o_dup 23), (23, o_get 2 3 26), (26, o_push (.int (iI (1))) 27), (27, o_isub 28), (28, o_puti 2 3 31), (31, o_ild 1 32), (32, o_ist 2 33), (33, o_ild 2 34), (34, o_push (.int (iI (1))) 35), (35, o_iadd 36), (36, o_ald 0 37), (37, o_get 2 2 40), (40, o_icmp_ge 74 43), (43, o_ild 2 44), (44, o_push (.int (iI (1))) 45), (45, o_iadd 46), (46, o_ald 0 47), (47, o_get 2 0 50), (50, o_alen 51), (51, o_icmp_ge 74 54), (54, o_ald 0 55), (55, o_get 2 0 58), (58, o_ild 2 59), (59, o_ald 0 60), (60, o_get 2 0 63), (63, o_ild 2 64), (64, o_push (.int (iI (1))) 65), (65, o_iadd 66), (66, o_iald 67), (67, o_iast 68), (68, o_iinc 2 (iI (1)) 71), (71, o_goto 33), (74, o_ald 0 75), (75, o_dup 76), (76, o_get 2 2 79), (79, o_push (.int (iI (1))) 80), (80, o_isub 81), (81, o_puti 2 2 84), (84, o_ald 0 85), (85, o_callV M_Mo_measure 2 1 88), (88, o_vret)]
theorem k_Mo_remove : ∀ x ∈ T_Mo_remove, SO M_Mo_remove x.1 x.2 := by
  obtain ⟨h0, h1, h4, h5, h6, h9, h12, h13, h14, h15, h18, h21⟩ := e0_Mo_remove
  obtain ⟨h22, h23, h26, h27, h28, h31, h32, h33, h34, h35, h36, h37⟩ := e1_Mo_remove
  obtain ⟨h40, h43, h44, h45, h46, h47, h50, h51, h54, h55, h58, h59⟩ := e2_Mo_remove
  obtain ⟨h60, h63, h64, h65, h66, h67, h68, h71, h74, h75, h76, h79⟩ := e3_Mo_remove
  obtain ⟨h80, h81, h84, h85, h88⟩ := e4_Mo_remove
  refine ac (s_ildn (M := M_Mo_remove) (pc := 0) (k := 1) h0) ?_
  refine ac (s_if_lt (M := M_Mo_remove) (pc := 1) h1 (by decide)) ?_
  refine ac (s_ildn (M := M_Mo_remove) (pc := 4) (k := 1) h4) ?_
  refine ac (s_aldn (M := M_Mo_remove) (pc := 5) (k := 0) h5) ?_
  refine ac (s_get (M := M_Mo_remove) (pc := 6) (T := TX2) (N := 6) h6 rfl in_X2 (by decide) wd72) ?_
  refine ac (s_icmp_lt (M := M_Mo_remove) (pc := 9) h9 (by decide)) ?_
  refine ac (s_vret (M := M_Mo_remove) (pc := 12) h12 rfl) ?_
  refine ac (s_ildn (M := M_Mo_remove) (pc := 13) (k := 1) h13) ?_
  refine ac (s_aldn (M := M_Mo_remove) (pc := 14) (k := 0) h14) ?_
  refine ac (s_callV (M := M_Mo_remove) (pc := 15) (tz_Mo rfl) h15 q_Mo_bases wd254 wd255 wd256 rfl (T := TX2) (N := 6) rfl) ?_
  refine ac (s_icmp_lt (M := M_Mo_remove) (pc := 18) h18 (by decide)) ?_
  refine ac (s_aldn (M := M_Mo_remove) (pc := 21) (k := 0) h21) ?_
  refine ac (s_dup (M := M_Mo_remove) (pc := 22) h22) ?_
  refine ac (s_get (M := M_Mo_remove) (pc := 23) (T := TX2) (N := 6) h23 rfl in_X2 (by decide) wd76) ?_
  refine ac (s_iconst (M := M_Mo_remove) (pc := 26) h26 rfl) ?_
  refine ac (s_isub (M := M_Mo_remove) (pc := 27) h27) ?_
  refine ac (s_puti (M := M_Mo_remove) (pc := 28) (T := TX2) (N := 6) (ty0 := tyX2) h28 ⟨rfl, in_X2, by decide, wd76, tyX2_ok, nmX2, (Or.inl rfl)⟩ rfl) ?_
  refine ac (s_ildn (M := M_Mo_remove) (pc := 31) (k := 1) h31) ?_
  refine ac (s_istn (M := M_Mo_remove) (pc := 32) (k := 2) h32 (by decide)) ?_
  refine ac (s_ildn (M := M_Mo_remove) (pc := 33) (k := 2) h33) ?_
  refine ac (s_iconst (M := M_Mo_remove) (pc := 34) h34 rfl) ?_
  refine ac (s_iadd (M := M_Mo_remove) (pc := 35) h35) ?_
  refine ac (s_aldn (M := M_Mo_remove) (pc := 36) (k := 0) h36) ?_
  refine ac (s_get (M := M_Mo_remove) (pc := 37) (T := TX2) (N := 6) h37 rfl in_X2 (by decide) wd72) ?_
  refine ac (s_icmp_ge (M := M_Mo_remove) (pc := 40) h40 (by decide)) ?_
  refine ac (s_ildn (M := M_Mo_remove) (pc := 43) (k := 2) h43) ?_
  refine ac (s_iconst (M := M_Mo_remove) (pc := 44) h44 rfl) ?_
  refine ac (s_iadd (M := M_Mo_remove) (pc := 45) h45) ?_
  refine ac (s_aldn (M := M_Mo_remove) (pc := 46) (k := 0) h46) ?_
  refine ac (s_get (M := M_Mo_remove) (pc := 47) (T := TX2) (N := 6) h47 rfl in_X2 (by decide) wd70) ?_
  refine ac (s_alen (M := M_Mo_remove) (pc := 50) h50) ?_
  refine ac (s_icmp_ge (M := M_Mo_remove) (pc := 51) h51 (by decide)) ?_
  refine ac (s_aldn (M := M_Mo_remove) (pc := 54) (k := 0) h54) ?_
  refine ac (s_get (M := M_Mo_remove) (pc := 55) (T := TX2) (N := 6) h55 rfl in_X2 (by decide) wd70) ?_
  refine ac (s_ildn (M := M_Mo_remove) (pc := 58) (k := 2) h58) ?_
  refine ac (s_aldn (M := M_Mo_remove) (pc := 59) (k := 0) h59) ?_
  refine ac (s_get (M := M_Mo_remove) (pc := 60) (T := TX2) (N := 6) h60 rfl in_X2 (by decide) wd70) ?_
  refine ac (s_ildn (M := M_Mo_remove) (pc := 63) (k := 2) h63) ?_
  refine ac (s_iconst (M := M_Mo_remove) (pc := 64) h64 rfl) ?_
  refine ac (s_iadd (M := M_Mo_remove) (pc := 65) h65) ?_
  refine ac (s_iald (M := M_Mo_remove) (pc := 66) h66) ?_
  refine ac (s_iast (M := M_Mo_remove) (pc := 67) h67) ?_
  refine ac (s_iinc (M := M_Mo_remove) (pc := 68) h68 rfl (by decide)) ?_
  refine ac (s_goto (M := M_Mo_remove) (pc := 71) h71 (by decide)) ?_
  refine ac (s_aldn (M := M_Mo_remove) (pc := 74) (k := 0) h74) ?_
  refine ac (s_dup (M := M_Mo_remove) (pc := 75) h75) ?_
  refine ac (s_get (M := M_Mo_remove) (pc := 76) (T := TX2) (N := 6) h76 rfl in_X2 (by decide) wd72) ?_
  refine ac (s_iconst (M := M_Mo_remove) (pc := 79) h79 rfl) ?_
  refine ac (s_isub (M := M_Mo_remove) (pc := 80) h80) ?_
  refine ac (s_puti (M := M_Mo_remove) (pc := 81) (T := TX2) (N := 6) (ty0 := tyX2) h81 ⟨rfl, in_X2, by decide, wd72, tyX2_ok, nmX2, (Or.inl rfl)⟩ rfl) ?_
  refine ac (s_aldn (M := M_Mo_remove) (pc := 84) (k := 0) h84) ?_
  refine ac (s_callV (M := M_Mo_remove) (pc := 85) (tz_Mo rfl) h85 q_Mo_measure wd258 wd260 wd0 rfl (T := TX2) (N := 6) rfl) ?_
  refine ac (s_vret (M := M_Mo_remove) (pc := 88) h88 rfl) ?_
  exact ac_nil
