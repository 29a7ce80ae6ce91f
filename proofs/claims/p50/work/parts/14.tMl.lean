theorem e0_Ml_soundRegisters : decode prog_3_method_18_code 0 = .ok (.iconst 0, 1) ∧ decode prog_3_method_18_code 1 = .ok (.istore_n 1, 1) ∧ decode prog_3_method_18_code 2 = .ok (.iconst 0, 1) ∧ decode prog_3_method_18_code 3 = .ok (.istore_n 2, 1) ∧ decode prog_3_method_18_code 4 = .ok (.iload_n 2, 1) ∧ decode prog_3_method_18_code 5 = .ok (.bipush 8, 2) ∧ decode prog_3_method_18_code 7 = .ok (.if_icmp .ge 20, 3) ∧ decode prog_3_method_18_code 10 = .ok (.aload_n 0, 1) ∧ decode prog_3_method_18_code 11 = .ok (.iload_n 2, 1) ∧ decode prog_3_method_18_code 12 = .ok (.invokevirtual 113, 3) ∧ decode prog_3_method_18_code 15 = .ok (.ifCond .eq 6, 3) ∧ decode prog_3_method_18_code 18 = .ok (.iinc 1 1, 3) := by decide +kernel
theorem e1_Ml_soundRegisters : decode prog_3_method_18_code 21 = .ok (.iinc 2 1, 3) ∧ decode prog_3_method_18_code 24 = .ok (.goto (-20), 3) ∧ decode prog_3_method_18_code 27 = .ok (.iload_n 1, 1) ∧ decode prog_3_method_18_code 28 = .ok (.ireturn, 1) := by decide +kernel
def T_Ml_soundRegisters : TT := [(0, o_push (.int (iI (0))) 1), (1, o_ist 1 2), (2, o_push (.int (iI (0))) 3), (3, o_ist 2 4), (4, o_ild 2 5), (5, o_push (.int (iI (8))) 7), (7, o_icmp_ge 27 10), (10, o_ald 0 11), (11, o_ild 2 12), (12, o_callV M_Ml_soundAt 1 2 15), (15, o_if_eq 21 18), (18, o_iinc 1 (iI (1)) 21), (21, o_iinc 2 (iI (1)) 24), (24, o_goto 4), (27, o_ild 1 28), (28, o_iret)]
theorem k_Ml_soundRegisters : ∀ x ∈ T_Ml_soundRegisters, SO M_Ml_soundRegisters x.1 x.2 := by
  obtain ⟨h0, h1, h2, h3, h4, h5, h7, h10, h11, h12, h15, h18⟩ := e0_Ml_soundRegisters
  obtain ⟨h21, h24, h27, h28⟩ := e1_Ml_soundRegisters
  refine ac (s_iconst (M := M_Ml_soundRegisters) (pc := 0) h0 rfl) ?_
  refine ac (s_istn (M := M_Ml_soundRegisters) (pc := 1) (k := 1) h1 (by decide)) ?_
  refine ac (s_iconst (M := M_Ml_soundRegisters) (pc := 2) h2 rfl) ?_
  refine ac (s_istn (M := M_Ml_soundRegisters) (pc := 3) (k := 2) h3 (by decide)) ?_
  refine ac (s_ildn (M := M_Ml_soundRegisters) (pc := 4) (k := 2) h4) ?_
  refine ac (s_bipush (M := M_Ml_soundRegisters) (pc := 5) h5 (by decide)) ?_
  refine ac (s_icmp_ge (M := M_Ml_soundRegisters) (pc := 7) h7 (by decide)) ?_
  refine ac (s_aldn (M := M_Ml_soundRegisters) (pc := 10) (k := 0) h10) ?_
  refine ac (s_ildn (M := M_Ml_soundRegisters) (pc := 11) (k := 2) h11) ?_
  refine ac (s_callV (M := M_Ml_soundRegisters) (pc := 12) (tz_Ml rfl) h12 q_Ml_soundAt wd330 wd331 wd332 rfl (T := TX1) (N := 4) rfl) ?_
  refine ac (s_if_eq (M := M_Ml_soundRegisters) (pc := 15) h15 (by decide)) ?_
  refine ac (s_iinc (M := M_Ml_soundRegisters) (pc := 18) h18 rfl (by decide)) ?_
  refine ac (s_iinc (M := M_Ml_soundRegisters) (pc := 21) h21 rfl (by decide)) ?_
  refine ac (s_goto (M := M_Ml_soundRegisters) (pc := 24) h24 (by decide)) ?_
  refine ac (s_ildn (M := M_Ml_soundRegisters) (pc := 27) (k := 1) h27) ?_
  refine ac (s_iret (M := M_Ml_soundRegisters) (pc := 28) h28 rfl) ?_
  exact ac_nil
theorem e0_Ml_soundAt : decode prog_3_method_12_code 0 = .ok (.aload_n 0, 1) ∧ decode prog_3_method_12_code 1 = .ok (.getfield 12, 3) ∧ decode prog_3_method_12_code 4 = .ok (.aload_n 0, 1) ∧ decode prog_3_method_12_code 5 = .ok (.iload_n 1, 1) ∧ decode prog_3_method_12_code 6 = .ok (.invokevirtual 65, 3) ∧ decode prog_3_method_12_code 9 = .ok (.invokevirtual 80, 3) ∧ decode prog_3_method_12_code 12 = .ok (.ireturn, 1) := by decide +kernel
def T_Ml_soundAt : TT := [(0, o_ald 0 1), (1, o_get 1 0 4), (4, o_ald 0 5), (5, o_ild 1 6), (6, o_callV M_Ml_numberAt 1 2 9), (9, o_callV M_Mo_fits 2 2 12), (12, o_zret)]
theorem k_Ml_soundAt : ∀ x ∈ T_Ml_soundAt, SO M_Ml_soundAt x.1 x.2 := by
  obtain ⟨h0, h1, h4, h5, h6, h9, h12⟩ := e0_Ml_soundAt
  refine ac (s_aldn (M := M_Ml_soundAt) (pc := 0) (k := 0) h0) ?_
  refine ac (s_get (M := M_Ml_soundAt) (pc := 1) (T := TX1) (N := 4) h1 rfl in_X1 (by decide) wd99) ?_
  refine ac (s_aldn (M := M_Ml_soundAt) (pc := 4) (k := 0) h4) ?_
  refine ac (s_ildn (M := M_Ml_soundAt) (pc := 5) (k := 1) h5) ?_
  refine ac (s_callV (M := M_Ml_soundAt) (pc := 6) (tz_Ml rfl) h6 q_Ml_numberAt wd334 wd335 wd336 rfl (T := TX1) (N := 4) rfl) ?_
  refine ac (s_callV (M := M_Ml_soundAt) (pc := 9) (tz_Ml rfl) h9 q_Mo_fits wd338 wd339 wd340 rfl (T := TX2) (N := 6) rfl) ?_
  refine ac (s_zret (M := M_Ml_soundAt) (pc := 12) h12 rfl) ?_
  exact ac_nil
theorem e0_Ml_numberAt : decode prog_3_method_7_code 0 = .ok (.iload_n 1, 1) ∧ decode prog_3_method_7_code 1 = .ok (.ifCond .lt 12, 3) ∧ decode prog_3_method_7_code 4 = .ok (.iload_n 1, 1) ∧ decode prog_3_method_7_code 5 = .ok (.aload_n 0, 1) ∧ decode prog_3_method_7_code 6 = .ok (.getfield 18, 3) ∧ decode prog_3_method_7_code 9 = .ok (.arraylength, 1) ∧ decode prog_3_method_7_code 10 = .ok (.if_icmp .lt 7, 3) ∧ decode prog_3_method_7_code 13 = .ok (.lconst 0, 1) ∧ decode prog_3_method_7_code 14 = .ok (.goto 9, 3) ∧ decode prog_3_method_7_code 17 = .ok (.aload_n 0, 1) ∧ decode prog_3_method_7_code 18 = .ok (.getfield 18, 3) ∧ decode prog_3_method_7_code 21 = .ok (.iload_n 1, 1) := by decide +kernel
theorem e1_Ml_numberAt : decode prog_3_method_7_code 22 = .ok (.laload, 1) ∧ decode prog_3_method_7_code 23 = .ok (.lreturn, 1) := by decide +kernel
def T_Ml_numberAt : TT := [(0, o_ild 1 1), (1, o_if_lt 13 4), (4, o_ild 1 5), (5, o_ald 0 6), (6, o_get 1 1 9), (9, o_alen 10), (10, o_icmp_lt 17 13), (13, o_push (.long (lI 0)) 14), (14, o_goto 23), (17, o_ald 0 18), (18, o_get 1 1 21), (21, o_ild 1 22), (22, o_lald 23), (23, o_lret)]
theorem k_Ml_numberAt : ∀ x ∈ T_Ml_numberAt, SO M_Ml_numberAt x.1 x.2 := by
  obtain ⟨h0, h1, h4, h5, h6, h9, h10, h13, h14, h17, h18, h21⟩ := e0_Ml_numberAt
  obtain ⟨h22, h23⟩ := e1_Ml_numberAt
  refine ac (s_ildn (M := M_Ml_numberAt) (pc := 0) (k := 1) h0) ?_
  refine ac (s_if_lt (M := M_Ml_numberAt) (pc := 1) h1 (by decide)) ?_
  refine ac (s_ildn (M := M_Ml_numberAt) (pc := 4) (k := 1) h4) ?_
  refine ac (s_aldn (M := M_Ml_numberAt) (pc := 5) (k := 0) h5) ?_
  refine ac (s_get (M := M_Ml_numberAt) (pc := 6) (T := TX1) (N := 4) h6 rfl in_X1 (by decide) wd102) ?_
  refine ac (s_alen (M := M_Ml_numberAt) (pc := 9) h9) ?_
  refine ac (s_icmp_lt (M := M_Ml_numberAt) (pc := 10) h10 (by decide)) ?_
  refine ac (s_lconst (M := M_Ml_numberAt) (pc := 13) h13 (by decide)) ?_
  refine ac (s_goto (M := M_Ml_numberAt) (pc := 14) h14 (by decide)) ?_
  refine ac (s_aldn (M := M_Ml_numberAt) (pc := 17) (k := 0) h17) ?_
  refine ac (s_get (M := M_Ml_numberAt) (pc := 18) (T := TX1) (N := 4) h18 rfl in_X1 (by decide) wd102) ?_
  refine ac (s_ildn (M := M_Ml_numberAt) (pc := 21) (k := 1) h21) ?_
  refine ac (s_lald (M := M_Ml_numberAt) (pc := 22) h22) ?_
  refine ac (s_lret (M := M_Ml_numberAt) (pc := 23) h23 rfl) ?_
  exact ac_nil
theorem e0_Ml_registersWithSign : decode prog_3_method_19_code 0 = .ok (.iconst 0, 1) ∧ decode prog_3_method_19_code 1 = .ok (.istore_n 2, 1) ∧ decode prog_3_method_19_code 2 = .ok (.iconst 0, 1) ∧ decode prog_3_method_19_code 3 = .ok (.istore_n 3, 1) ∧ decode prog_3_method_19_code 4 = .ok (.iload_n 3, 1) ∧ decode prog_3_method_19_code 5 = .ok (.bipush 8, 2) ∧ decode prog_3_method_19_code 7 = .ok (.if_icmp .ge 25, 3) ∧ decode prog_3_method_19_code 10 = .ok (.aload_n 0, 1) ∧ decode prog_3_method_19_code 11 = .ok (.iload_n 3, 1) ∧ decode prog_3_method_19_code 12 = .ok (.invokevirtual 65, 3) ∧ decode prog_3_method_19_code 15 = .ok (.lconst 0, 1) ∧ decode prog_3_method_19_code 16 = .ok (.invokestatic 84, 3) := by decide +kernel
theorem e1_Ml_registersWithSign : decode prog_3_method_19_code 19 = .ok (.iload_n 1, 1) ∧ decode prog_3_method_19_code 20 = .ok (.if_icmp .ne 6, 3) ∧ decode prog_3_method_19_code 23 = .ok (.iinc 2 1, 3) ∧ decode prog_3_method_19_code 26 = .ok (.iinc 3 1, 3) ∧ decode prog_3_method_19_code 29 = .ok (.goto (-25), 3) ∧ decode prog_3_method_19_code 32 = .ok (.iload_n 2, 1) ∧ decode prog_3_method_19_code 33 = .ok (.ireturn, 1) := by decide +kernel
def T_Ml_registersWithSign : TT := [(0, o_push (.int (iI (0))) 1), (1, o_ist 2 2), (2, o_push (.int (iI (0))) 3), (3, o_ist 3 4), (4, o_ild 3 5), (5, o_push (.int (iI (8))) 7), (7, o_icmp_ge 32 10), (10, o_ald 0 11), (11, o_ild 3 12), (12, o_callV M_Ml_numberAt 1 2 15), (15, o_push (.long (lI 0)) 16), (16, o_call M_jLong_compare 2 19), (19, o_ild 1 20), (20, o_icmp_ne 26 23), (23, o_iinc 2 (iI (1)) 26), (26, o_iinc 3 (iI (1)) 29), (29, o_goto 4), (32, o_ild 2 33), (33, o_iret)]
theorem k_Ml_registersWithSign : ∀ x ∈ T_Ml_registersWithSign, SO M_Ml_registersWithSign x.1 x.2 := by
  obtain ⟨h0, h1, h2, h3, h4, h5, h7, h10, h11, h12, h15, h16⟩ := e0_Ml_registersWithSign
  obtain ⟨h19, h20, h23, h26, h29, h32, h33⟩ := e1_Ml_registersWithSign
  refine ac (s_iconst (M := M_Ml_registersWithSign) (pc := 0) h0 rfl) ?_
  refine ac (s_istn (M := M_Ml_registersWithSign) (pc := 1) (k := 2) h1 (by decide)) ?_
  refine ac (s_iconst (M := M_Ml_registersWithSign) (pc := 2) h2 rfl) ?_
  refine ac (s_istn (M := M_Ml_registersWithSign) (pc := 3) (k := 3) h3 (by decide)) ?_
  refine ac (s_ildn (M := M_Ml_registersWithSign) (pc := 4) (k := 3) h4) ?_
  refine ac (s_bipush (M := M_Ml_registersWithSign) (pc := 5) h5 (by decide)) ?_
  refine ac (s_icmp_ge (M := M_Ml_registersWithSign) (pc := 7) h7 (by decide)) ?_
  refine ac (s_aldn (M := M_Ml_registersWithSign) (pc := 10) (k := 0) h10) ?_
  refine ac (s_ildn (M := M_Ml_registersWithSign) (pc := 11) (k := 3) h11) ?_
  refine ac (s_callV (M := M_Ml_registersWithSign) (pc := 12) (tz_Ml rfl) h12 q_Ml_numberAt wd334 wd335 wd336 rfl (T := TX1) (N := 4) rfl) ?_
  refine ac (s_lconst (M := M_Ml_registersWithSign) (pc := 15) h15 (by decide)) ?_
  refine ac (s_callS (M := M_Ml_registersWithSign) (pc := 16) (tz_Ml rfl) h16 q_jLong_compare wd351 wd352) ?_
  refine ac (s_ildn (M := M_Ml_registersWithSign) (pc := 19) (k := 1) h19) ?_
  refine ac (s_icmp_ne (M := M_Ml_registersWithSign) (pc := 20) h20 (by decide)) ?_
  refine ac (s_iinc (M := M_Ml_registersWithSign) (pc := 23) h23 rfl (by decide)) ?_
  refine ac (s_iinc (M := M_Ml_registersWithSign) (pc := 26) h26 rfl (by decide)) ?_
  refine ac (s_goto (M := M_Ml_registersWithSign) (pc := 29) h29 (by decide)) ?_
  refine ac (s_ildn (M := M_Ml_registersWithSign) (pc := 32) (k := 2) h32) ?_
  refine ac (s_iret (M := M_Ml_registersWithSign) (pc := 33) h33 rfl) ?_
  exact ac_nil
theorem e0_Ml_accountAt : decode prog_3_method_4_code 0 = .ok (.iload_n 1, 1) ∧ decode prog_3_method_4_code 1 = .ok (.ifCond .lt 12, 3) ∧ decode prog_3_method_4_code 4 = .ok (.iload_n 1, 1) ∧ decode prog_3_method_4_code 5 = .ok (.aload_n 0, 1) ∧ decode prog_3_method_4_code 6 = .ok (.getfield 22, 3) ∧ decode prog_3_method_4_code 9 = .ok (.arraylength, 1) ∧ decode prog_3_method_4_code 10 = .ok (.if_icmp .lt 7, 3) ∧ decode prog_3_method_4_code 13 = .ok (.iconst 0, 1) ∧ decode prog_3_method_4_code 14 = .ok (.goto 9, 3) ∧ decode prog_3_method_4_code 17 = .ok (.aload_n 0, 1) ∧ decode prog_3_method_4_code 18 = .ok (.getfield 22, 3) ∧ decode prog_3_method_4_code 21 = .ok (.iload_n 1, 1) := by decide +kernel
theorem e1_Ml_accountAt : decode prog_3_method_4_code 22 = .ok (.iaload, 1) ∧ decode prog_3_method_4_code 23 = .ok (.ireturn, 1) := by decide +kernel
def T_Ml_accountAt : TT := [(0, o_ild 1 1), (1, o_if_lt 13 4), (4, o_ild 1 5), (5, o_ald 0 6), (6, o_get 1 2 9), (9, o_alen 10), (10, o_icmp_lt 17 13), (13, o_push (.int (iI (0))) 14), (14, o_goto 23), (17, o_ald 0 18), (18, o_get 1 2 21), (21, o_ild 1 22), (22, o_iald 23), (23, o_iret)]
theorem k_Ml_accountAt : ∀ x ∈ T_Ml_accountAt, SO M_Ml_accountAt x.1 x.2 := by
  obtain ⟨h0, h1, h4, h5, h6, h9, h10, h13, h14, h17, h18, h21⟩ := e0_Ml_accountAt
  obtain ⟨h22, h23⟩ := e1_Ml_accountAt
  refine ac (s_ildn (M := M_Ml_accountAt) (pc := 0) (k := 1) h0) ?_
  refine ac (s_if_lt (M := M_Ml_accountAt) (pc := 1) h1 (by decide)) ?_
  refine ac (s_ildn (M := M_Ml_accountAt) (pc := 4) (k := 1) h4) ?_
  refine ac (s_aldn (M := M_Ml_accountAt) (pc := 5) (k := 0) h5) ?_
  refine ac (s_get (M := M_Ml_accountAt) (pc := 6) (T := TX1) (N := 4) h6 rfl in_X1 (by decide) wd103) ?_
  refine ac (s_alen (M := M_Ml_accountAt) (pc := 9) h9) ?_
  refine ac (s_icmp_lt (M := M_Ml_accountAt) (pc := 10) h10 (by decide)) ?_
  refine ac (s_iconst (M := M_Ml_accountAt) (pc := 13) h13 rfl) ?_
  refine ac (s_goto (M := M_Ml_accountAt) (pc := 14) h14 (by decide)) ?_
  refine ac (s_aldn (M := M_Ml_accountAt) (pc := 17) (k := 0) h17) ?_
  refine ac (s_get (M := M_Ml_accountAt) (pc := 18) (T := TX1) (N := 4) h18 rfl in_X1 (by decide) wd103) ?_
  refine ac (s_ildn (M := M_Ml_accountAt) (pc := 21) (k := 1) h21) ?_
  refine ac (s_iald (M := M_Ml_accountAt) (pc := 22) h22) ?_
  refine ac (s_iret (M := M_Ml_accountAt) (pc := 23) h23 rfl) ?_
  exact ac_nil
theorem e0_Ml_restAt : decode prog_3_method_11_code 0 = .ok (.aload_n 0, 1) ∧ decode prog_3_method_11_code 1 = .ok (.iload_n 1, 1) ∧ decode prog_3_method_11_code 2 = .ok (.invokevirtual 65, 3) ∧ decode prog_3_method_11_code 5 = .ok (.aload_n 0, 1) ∧ decode prog_3_method_11_code 6 = .ok (.getfield 12, 3) ∧ decode prog_3_method_11_code 9 = .ok (.iload_n 2, 1) ∧ decode prog_3_method_11_code 10 = .ok (.invokevirtual 76, 3) ∧ decode prog_3_method_11_code 13 = .ok (.i2l, 1) ∧ decode prog_3_method_11_code 14 = .ok (.invokestatic 73, 3) ∧ decode prog_3_method_11_code 17 = .ok (.l2i, 1) ∧ decode prog_3_method_11_code 18 = .ok (.ireturn, 1) := by decide +kernel
def T_Ml_restAt : TT := [(0, o_ald 0 1), (1, o_ild 1 2), (2, o_callV M_Ml_numberAt 1 2 5), (5, o_ald 0 6), (6, o_get 1 0 9), (9, o_ild 2 10), (10, o_callV M_Mo_at 2 2 13), (13, o_i2l 14), (14, o_callN M_R_floorRest 2 17), (17, o_l2i 18), (18, o_iret)]
theorem k_Ml_restAt : ∀ x ∈ T_Ml_restAt, SO M_Ml_restAt x.1 x.2 := by
  obtain ⟨h0, h1, h2, h5, h6, h9, h10, h13, h14, h17, h18⟩ := e0_Ml_restAt
  refine ac (s_aldn (M := M_Ml_restAt) (pc := 0) (k := 0) h0) ?_
  refine ac (s_ildn (M := M_Ml_restAt) (pc := 1) (k := 1) h1) ?_
  refine ac (s_callV (M := M_Ml_restAt) (pc := 2) (tz_Ml rfl) h2 q_Ml_numberAt wd334 wd335 wd336 rfl (T := TX1) (N := 4) rfl) ?_
  refine ac (s_aldn (M := M_Ml_restAt) (pc := 5) (k := 0) h5) ?_
  refine ac (s_get (M := M_Ml_restAt) (pc := 6) (T := TX1) (N := 4) h6 rfl in_X1 (by decide) wd99) ?_
  refine ac (s_ildn (M := M_Ml_restAt) (pc := 9) (k := 2) h9) ?_
  refine ac (s_callV (M := M_Ml_restAt) (pc := 10) (tz_Ml rfl) h10 q_Mo_at wd467 wd263 wd264 rfl (T := TX2) (N := 6) rfl) ?_
  refine ac (s_i2l (M := M_Ml_restAt) (pc := 13) h13) ?_
  refine ac (s_callN (M := M_Ml_restAt) (pc := 14) (k := 2) (tz_Ml rfl) h14 q_R_floorRest rfl wd276) ?_
  refine ac (s_l2i (M := M_Ml_restAt) (pc := 17) h17) ?_
  refine ac (s_iret (M := M_Ml_restAt) (pc := 18) h18 rfl) ?_
  exact ac_nil
theorem e0_Ml_orderOf : decode prog_3_method_13_code 0 = .ok (.aload_n 0, 1) ∧ decode prog_3_method_13_code 1 = .ok (.iload_n 1, 1) ∧ decode prog_3_method_13_code 2 = .ok (.invokevirtual 65, 3) ∧ decode prog_3_method_13_code 5 = .ok (.aload_n 0, 1) ∧ decode prog_3_method_13_code 6 = .ok (.iload_n 2, 1) ∧ decode prog_3_method_13_code 7 = .ok (.invokevirtual 65, 3) ∧ decode prog_3_method_13_code 10 = .ok (.invokestatic 84, 3) ∧ decode prog_3_method_13_code 13 = .ok (.ireturn, 1) := by decide +kernel
def T_Ml_orderOf : TT := [(0, o_ald 0 1), (1, o_ild 1 2), (2, o_callV M_Ml_numberAt 1 2 5), (5, o_ald 0 6), (6, o_ild 2 7), (7, o_callV M_Ml_numberAt 1 2 10), (10, o_call M_jLong_compare 2 13), (13, o_iret)]
theorem k_Ml_orderOf : ∀ x ∈ T_Ml_orderOf, SO M_Ml_orderOf x.1 x.2 := by
  obtain ⟨h0, h1, h2, h5, h6, h7, h10, h13⟩ := e0_Ml_orderOf
  refine ac (s_aldn (M := M_Ml_orderOf) (pc := 0) (k := 0) h0) ?_
  refine ac (s_ildn (M := M_Ml_orderOf) (pc := 1) (k := 1) h1) ?_
  refine ac (s_callV (M := M_Ml_orderOf) (pc := 2) (tz_Ml rfl) h2 q_Ml_numberAt wd334 wd335 wd336 rfl (T := TX1) (N := 4) rfl) ?_
  refine ac (s_aldn (M := M_Ml_orderOf) (pc := 5) (k := 0) h5) ?_
  refine ac (s_ildn (M := M_Ml_orderOf) (pc := 6) (k := 2) h6) ?_
  refine ac (s_callV (M := M_Ml_orderOf) (pc := 7) (tz_Ml rfl) h7 q_Ml_numberAt wd334 wd335 wd336 rfl (T := TX1) (N := 4) rfl) ?_
  refine ac (s_callS (M := M_Ml_orderOf) (pc := 10) (tz_Ml rfl) h10 q_jLong_compare wd351 wd352) ?_
  refine ac (s_iret (M := M_Ml_orderOf) (pc := 13) h13 rfl) ?_
  exact ac_nil
theorem e0_Ml_valueAt : decode prog_3_method_10_code 0 = .ok (.aload_n 0, 1) ∧ decode prog_3_method_10_code 1 = .ok (.iload_n 1, 1) ∧ decode prog_3_method_10_code 2 = .ok (.invokevirtual 65, 3) ∧ decode prog_3_method_10_code 5 = .ok (.aload_n 0, 1) ∧ decode prog_3_method_10_code 6 = .ok (.getfield 12, 3) ∧ decode prog_3_method_10_code 9 = .ok (.getfield 57, 3) ∧ decode prog_3_method_10_code 12 = .ok (.invokestatic 73, 3) ∧ decode prog_3_method_10_code 15 = .ok (.lreturn, 1) := by decide +kernel
def T_Ml_valueAt : TT := [(0, o_ald 0 1), (1, o_ild 1 2), (2, o_callV M_Ml_numberAt 1 2 5), (5, o_ald 0 6), (6, o_get 1 0 9), (9, o_get 2 4 12), (12, o_callN M_R_floorRest 2 15), (15, o_lret)]
theorem k_Ml_valueAt : ∀ x ∈ T_Ml_valueAt, SO M_Ml_valueAt x.1 x.2 := by
  obtain ⟨h0, h1, h2, h5, h6, h9, h12, h15⟩ := e0_Ml_valueAt
  refine ac (s_aldn (M := M_Ml_valueAt) (pc := 0) (k := 0) h0) ?_
  refine ac (s_ildn (M := M_Ml_valueAt) (pc := 1) (k := 1) h1) ?_
  refine ac (s_callV (M := M_Ml_valueAt) (pc := 2) (tz_Ml rfl) h2 q_Ml_numberAt wd334 wd335 wd336 rfl (T := TX1) (N := 4) rfl) ?_
  refine ac (s_aldn (M := M_Ml_valueAt) (pc := 5) (k := 0) h5) ?_
  refine ac (s_get (M := M_Ml_valueAt) (pc := 6) (T := TX1) (N := 4) h6 rfl in_X1 (by decide) wd99) ?_
  refine ac (s_get (M := M_Ml_valueAt) (pc := 9) (T := TX2) (N := 6) h9 rfl in_X2 (by decide) wd79) ?_
  refine ac (s_callN (M := M_Ml_valueAt) (pc := 12) (k := 2) (tz_Ml rfl) h12 q_R_floorRest rfl wd276) ?_
  refine ac (s_lret (M := M_Ml_valueAt) (pc := 15) h15 rfl) ?_
  exact ac_nil
theorem e0_Ml_sumOfParts : decode prog_3_method_17_code 0 = .ok (.lconst 0, 1) ∧ decode prog_3_method_17_code 1 = .ok (.lstore_n 2, 1) ∧ decode prog_3_method_17_code 2 = .ok (.iconst 0, 1) ∧ decode prog_3_method_17_code 3 = .ok (.istore 4, 2) ∧ decode prog_3_method_17_code 5 = .ok (.iload 4, 2) ∧ decode prog_3_method_17_code 7 = .ok (.aload_n 0, 1) ∧ decode prog_3_method_17_code 8 = .ok (.getfield 12, 3) ∧ decode prog_3_method_17_code 11 = .ok (.getfield 93, 3) ∧ decode prog_3_method_17_code 14 = .ok (.if_icmp .ge 19, 3) ∧ decode prog_3_method_17_code 17 = .ok (.lload_n 2, 1) ∧ decode prog_3_method_17_code 18 = .ok (.aload_n 0, 1) ∧ decode prog_3_method_17_code 19 = .ok (.iload_n 1, 1) := by decide +kernel
theorem e1_Ml_sumOfParts : decode prog_3_method_17_code 20 = .ok (.iload 4, 2) ∧ decode prog_3_method_17_code 22 = .ok (.invokevirtual 109, 3) ∧ decode prog_3_method_17_code 25 = .ok (.ladd, 1) ∧ decode prog_3_method_17_code 26 = .ok (.lstore_n 2, 1) ∧ decode prog_3_method_17_code 27 = .ok (.iinc 4 1, 3) ∧ decode prog_3_method_17_code 30 = .ok (.goto (-25), 3) ∧ decode prog_3_method_17_code 33 = .ok (.lload_n 2, 1) ∧ decode prog_3_method_17_code 34 = .ok (.lreturn, 1) := by decide +kernel
def T_Ml_sumOfParts : TT := [(0, o_push (.long (lI 0)) 1), (1, o_lst 2 2), (2, o_push (.int (iI (0))) 3), (3, o_ist 4 5), (5, o_ild 4 7), (7, o_ald 0 8), (8, o_get 1 0 11), (11, o_get 2 2 14), (14, o_icmp_ge 33 17), (17, o_lld 2 18), (18, o_ald 0 19), (19, o_ild 1 20), (20, o_ild 4 22), (22, o_callV M_Ml_partAt 1 3 25), (25, o_ladd 26), (26, o_lst 2 27), (27, o_iinc 4 (iI (1)) 30), (30, o_goto 5), (33, o_lld 2 34), (34, o_lret)]
theorem k_Ml_sumOfParts : ∀ x ∈ T_Ml_sumOfParts, SO M_Ml_sumOfParts x.1 x.2 := by
  obtain ⟨h0, h1, h2, h3, h5, h7, h8, h11, h14, h17, h18, h19⟩ := e0_Ml_sumOfParts
  obtain ⟨h20, h22, h25, h26, h27, h30, h33, h34⟩ := e1_Ml_sumOfParts
  refine ac (s_lconst (M := M_Ml_sumOfParts) (pc := 0) h0 (by decide)) ?_
  refine ac (s_lstn (M := M_Ml_sumOfParts) (pc := 1) (k := 2) h1 (by decide)) ?_
  refine ac (s_iconst (M := M_Ml_sumOfParts) (pc := 2) h2 rfl) ?_
  refine ac (s_ist (M := M_Ml_sumOfParts) (pc := 3) h3 (by decide)) ?_
  refine ac (s_ild (M := M_Ml_sumOfParts) (pc := 5) h5) ?_
  refine ac (s_aldn (M := M_Ml_sumOfParts) (pc := 7) (k := 0) h7) ?_
  refine ac (s_get (M := M_Ml_sumOfParts) (pc := 8) (T := TX1) (N := 4) h8 rfl in_X1 (by decide) wd99) ?_
  refine ac (s_get (M := M_Ml_sumOfParts) (pc := 11) (T := TX2) (N := 6) h11 rfl in_X2 (by decide) wd75) ?_
  refine ac (s_icmp_ge (M := M_Ml_sumOfParts) (pc := 14) h14 (by decide)) ?_
  refine ac (s_lldn (M := M_Ml_sumOfParts) (pc := 17) (k := 2) h17) ?_
  refine ac (s_aldn (M := M_Ml_sumOfParts) (pc := 18) (k := 0) h18) ?_
  refine ac (s_ildn (M := M_Ml_sumOfParts) (pc := 19) (k := 1) h19) ?_
  refine ac (s_ild (M := M_Ml_sumOfParts) (pc := 20) h20) ?_
  refine ac (s_callV (M := M_Ml_sumOfParts) (pc := 22) (tz_Ml rfl) h22 q_Ml_partAt wd503 wd504 wd505 rfl (T := TX1) (N := 4) rfl) ?_
  refine ac (s_ladd (M := M_Ml_sumOfParts) (pc := 25) h25) ?_
  refine ac (s_lstn (M := M_Ml_sumOfParts) (pc := 26) (k := 2) h26 (by decide)) ?_
  refine ac (s_iinc (M := M_Ml_sumOfParts) (pc := 27) h27 rfl (by decide)) ?_
  refine ac (s_goto (M := M_Ml_sumOfParts) (pc := 30) h30 (by decide)) ?_
  refine ac (s_lldn (M := M_Ml_sumOfParts) (pc := 33) (k := 2) h33) ?_
  refine ac (s_lret (M := M_Ml_sumOfParts) (pc := 34) h34 rfl) ?_
  exact ac_nil
theorem e0_Ml_partAt : decode prog_3_method_16_code 0 = .ok (.aload_n 0, 1) ∧ decode prog_3_method_16_code 1 = .ok (.iload_n 1, 1) ∧ decode prog_3_method_16_code 2 = .ok (.iload_n 2, 1) ∧ decode prog_3_method_16_code 3 = .ok (.invokevirtual 103, 3) ∧ decode prog_3_method_16_code 6 = .ok (.i2l, 1) ∧ decode prog_3_method_16_code 7 = .ok (.aload_n 0, 1) ∧ decode prog_3_method_16_code 8 = .ok (.getfield 12, 3) ∧ decode prog_3_method_16_code 11 = .ok (.iload_n 2, 1) ∧ decode prog_3_method_16_code 12 = .ok (.invokevirtual 106, 3) ∧ decode prog_3_method_16_code 15 = .ok (.lmul, 1) ∧ decode prog_3_method_16_code 16 = .ok (.aload_n 0, 1) ∧ decode prog_3_method_16_code 17 = .ok (.getfield 12, 3) := by decide +kernel
theorem e1_Ml_partAt : decode prog_3_method_16_code 20 = .ok (.getfield 57, 3) ∧ decode prog_3_method_16_code 23 = .ok (.invokestatic 73, 3) ∧ decode prog_3_method_16_code 26 = .ok (.lreturn, 1) := by decide +kernel
def T_Ml_partAt : TT := [(0, o_ald 0 1), (1, o_ild 1 2), (2, o_ild 2 3), (3, o_callV M_Ml_restAt 1 3 6), (6, o_i2l 7), (7, o_ald 0 8), (8, o_get 1 0 11), (11, o_ild 2 12), (12, o_callV M_Mo_weightAt 2 2 15), (15, o_lmul 16), (16, o_ald 0 17), (17, o_get 1 0 20), (20, o_get 2 4 23), (23, o_callN M_R_floorRest 2 26), (26, o_lret)]
theorem k_Ml_partAt : ∀ x ∈ T_Ml_partAt, SO M_Ml_partAt x.1 x.2 := by
  obtain ⟨h0, h1, h2, h3, h6, h7, h8, h11, h12, h15, h16, h17⟩ := e0_Ml_partAt
  obtain ⟨h20, h23, h26⟩ := e1_Ml_partAt
  refine ac (s_aldn (M := M_Ml_partAt) (pc := 0) (k := 0) h0) ?_
  refine ac (s_ildn (M := M_Ml_partAt) (pc := 1) (k := 1) h1) ?_
  refine ac (s_ildn (M := M_Ml_partAt) (pc := 2) (k := 2) h2) ?_
  refine ac (s_callV (M := M_Ml_partAt) (pc := 3) (tz_Ml rfl) h3 q_Ml_restAt wd507 wd464 wd465 rfl (T := TX1) (N := 4) rfl) ?_
  refine ac (s_i2l (M := M_Ml_partAt) (pc := 6) h6) ?_
  refine ac (s_aldn (M := M_Ml_partAt) (pc := 7) (k := 0) h7) ?_
  refine ac (s_get (M := M_Ml_partAt) (pc := 8) (T := TX1) (N := 4) h8 rfl in_X1 (by decide) wd99) ?_
  refine ac (s_ildn (M := M_Ml_partAt) (pc := 11) (k := 2) h11) ?_
  refine ac (s_callV (M := M_Ml_partAt) (pc := 12) (tz_Ml rfl) h12 q_Mo_weightAt wd508 wd509 wd510 rfl (T := TX2) (N := 6) rfl) ?_
  refine ac (s_lmul (M := M_Ml_partAt) (pc := 15) h15) ?_
  refine ac (s_aldn (M := M_Ml_partAt) (pc := 16) (k := 0) h16) ?_
  refine ac (s_get (M := M_Ml_partAt) (pc := 17) (T := TX1) (N := 4) h17 rfl in_X1 (by decide) wd99) ?_
  refine ac (s_get (M := M_Ml_partAt) (pc := 20) (T := TX2) (N := 6) h20 rfl in_X2 (by decide) wd79) ?_
  refine ac (s_callN (M := M_Ml_partAt) (pc := 23) (k := 2) (tz_Ml rfl) h23 q_R_floorRest rfl wd276) ?_
  refine ac (s_lret (M := M_Ml_partAt) (pc := 26) h26 rfl) ?_
  exact ac_nil
theorem e0_Ml_valueByDigits : decode prog_3_method_15_code 0 = .ok (.lconst 0, 1) ∧ decode prog_3_method_15_code 1 = .ok (.lstore_n 2, 1) ∧ decode prog_3_method_15_code 2 = .ok (.lconst 1, 1) ∧ decode prog_3_method_15_code 3 = .ok (.lstore 4, 2) ∧ decode prog_3_method_15_code 5 = .ok (.iconst 0, 1) ∧ decode prog_3_method_15_code 6 = .ok (.istore 6, 2) ∧ decode prog_3_method_15_code 8 = .ok (.iload 6, 2) ∧ decode prog_3_method_15_code 10 = .ok (.aload_n 0, 1) ∧ decode prog_3_method_15_code 11 = .ok (.getfield 12, 3) ∧ decode prog_3_method_15_code 14 = .ok (.getfield 93, 3) ∧ decode prog_3_method_15_code 17 = .ok (.if_icmp .ge 38, 3) ∧ decode prog_3_method_15_code 20 = .ok (.lload_n 2, 1) := by decide +kernel
theorem e1_Ml_valueByDigits : decode prog_3_method_15_code 21 = .ok (.aload_n 0, 1) ∧ decode prog_3_method_15_code 22 = .ok (.iload_n 1, 1) ∧ decode prog_3_method_15_code 23 = .ok (.iload 6, 2) ∧ decode prog_3_method_15_code 25 = .ok (.invokevirtual 99, 3) ∧ decode prog_3_method_15_code 28 = .ok (.i2l, 1) ∧ decode prog_3_method_15_code 29 = .ok (.lload 4, 2) ∧ decode prog_3_method_15_code 31 = .ok (.lmul, 1) ∧ decode prog_3_method_15_code 32 = .ok (.ladd, 1) ∧ decode prog_3_method_15_code 33 = .ok (.lstore_n 2, 1) ∧ decode prog_3_method_15_code 34 = .ok (.lload 4, 2) ∧ decode prog_3_method_15_code 36 = .ok (.aload_n 0, 1) ∧ decode prog_3_method_15_code 37 = .ok (.getfield 12, 3) := by decide +kernel
theorem e2_Ml_valueByDigits : decode prog_3_method_15_code 40 = .ok (.iload 6, 2) ∧ decode prog_3_method_15_code 42 = .ok (.invokevirtual 76, 3) ∧ decode prog_3_method_15_code 45 = .ok (.i2l, 1) ∧ decode prog_3_method_15_code 46 = .ok (.lmul, 1) ∧ decode prog_3_method_15_code 47 = .ok (.lstore 4, 2) ∧ decode prog_3_method_15_code 49 = .ok (.iinc 6 1, 3) ∧ decode prog_3_method_15_code 52 = .ok (.goto (-44), 3) ∧ decode prog_3_method_15_code 55 = .ok (.lload_n 2, 1) ∧ decode prog_3_method_15_code 56 = .ok (.lreturn, 1) := by decide +kernel
def T_Ml_valueByDigits : TT := [(0, o_push (.long (lI 0)) 1), (1, o_lst 2 2), (2, o_push (.long (lI 1)) 3), (3, o_lst 4 5), (5, o_push (.int (iI (0))) 6), (6, o_ist 6 8), (8, o_ild 6 10), (10, o_ald 0 11), (11, o_get 1 0 14), (14, o_get 2 2 17), (17, o_icmp_ge 55 20), (20, o_lld 2 21), (21, o_ald 0 22), (22, o_ild 1 23), (23, o_ild 6 25), (25, o_callV M_Ml_digitAt 1 3 28), (28, o_i2l 29), (29, o_lld 4 31), (31, o_lmul 32), (32, o_ladd 33), (33, o_lst 2 34), (34, o_lld 4 36), (36, o_ald 0 37), (37, o_get 1 0 40), (40, o_ild 6 42), (42, o_callV M_Mo_at 2 2 45), (45, o_i2l 46), (46, o_lmul 47), (47, o_lst 4 49), (49, o_iinc 6 (iI (1)) 52), (52, o_goto 8), (55, o_lld 2 56), (56, o_lret)]
theorem k_Ml_valueByDigits : ∀ x ∈ T_Ml_valueByDigits, SO M_Ml_valueByDigits x.1 x.2 := by
  obtain ⟨h0, h1, h2, h3, h5, h6, h8, h10, h11, h14, h17, h20⟩ := e0_Ml_valueByDigits
  obtain ⟨h21, h22, h23, h25, h28, h29, h31, h32, h33, h34, h36, h37⟩ := e1_Ml_valueByDigits
  obtain ⟨h40, h42, h45, h46, h47, h49, h52, h55, h56⟩ := e2_Ml_valueByDigits
  refine ac (s_lconst (M := M_Ml_valueByDigits) (pc := 0) h0 (by decide)) ?_
  refine ac (s_lstn (M := M_Ml_valueByDigits) (pc := 1) (k := 2) h1 (by decide)) ?_
  refine ac (s_lconst (M := M_Ml_valueByDigits) (pc := 2) h2 (by decide)) ?_
  refine ac (s_lst (M := M_Ml_valueByDigits) (pc := 3) h3 (by decide)) ?_
  refine ac (s_iconst (M := M_Ml_valueByDigits) (pc := 5) h5 rfl) ?_
  refine ac (s_ist (M := M_Ml_valueByDigits) (pc := 6) h6 (by decide)) ?_
  refine ac (s_ild (M := M_Ml_valueByDigits) (pc := 8) h8) ?_
  refine ac (s_aldn (M := M_Ml_valueByDigits) (pc := 10) (k := 0) h10) ?_
  refine ac (s_get (M := M_Ml_valueByDigits) (pc := 11) (T := TX1) (N := 4) h11 rfl in_X1 (by decide) wd99) ?_
  refine ac (s_get (M := M_Ml_valueByDigits) (pc := 14) (T := TX2) (N := 6) h14 rfl in_X2 (by decide) wd75) ?_
  refine ac (s_icmp_ge (M := M_Ml_valueByDigits) (pc := 17) h17 (by decide)) ?_
  refine ac (s_lldn (M := M_Ml_valueByDigits) (pc := 20) (k := 2) h20) ?_
  refine ac (s_aldn (M := M_Ml_valueByDigits) (pc := 21) (k := 0) h21) ?_
  refine ac (s_ildn (M := M_Ml_valueByDigits) (pc := 22) (k := 1) h22) ?_
  refine ac (s_ild (M := M_Ml_valueByDigits) (pc := 23) h23) ?_
  refine ac (s_callV (M := M_Ml_valueByDigits) (pc := 25) (tz_Ml rfl) h25 q_Ml_digitAt wd516 wd517 wd518 rfl (T := TX1) (N := 4) rfl) ?_
  refine ac (s_i2l (M := M_Ml_valueByDigits) (pc := 28) h28) ?_
  refine ac (s_lld (M := M_Ml_valueByDigits) (pc := 29) h29) ?_
  refine ac (s_lmul (M := M_Ml_valueByDigits) (pc := 31) h31) ?_
  refine ac (s_ladd (M := M_Ml_valueByDigits) (pc := 32) h32) ?_
  refine ac (s_lstn (M := M_Ml_valueByDigits) (pc := 33) (k := 2) h33 (by decide)) ?_
  refine ac (s_lld (M := M_Ml_valueByDigits) (pc := 34) h34) ?_
  refine ac (s_aldn (M := M_Ml_valueByDigits) (pc := 36) (k := 0) h36) ?_
  refine ac (s_get (M := M_Ml_valueByDigits) (pc := 37) (T := TX1) (N := 4) h37 rfl in_X1 (by decide) wd99) ?_
  refine ac (s_ild (M := M_Ml_valueByDigits) (pc := 40) h40) ?_
  refine ac (s_callV (M := M_Ml_valueByDigits) (pc := 42) (tz_Ml rfl) h42 q_Mo_at wd467 wd263 wd264 rfl (T := TX2) (N := 6) rfl) ?_
  refine ac (s_i2l (M := M_Ml_valueByDigits) (pc := 45) h45) ?_
  refine ac (s_lmul (M := M_Ml_valueByDigits) (pc := 46) h46) ?_
  refine ac (s_lst (M := M_Ml_valueByDigits) (pc := 47) h47 (by decide)) ?_
  refine ac (s_iinc (M := M_Ml_valueByDigits) (pc := 49) h49 rfl (by decide)) ?_
  refine ac (s_goto (M := M_Ml_valueByDigits) (pc := 52) h52 (by decide)) ?_
  refine ac (s_lldn (M := M_Ml_valueByDigits) (pc := 55) (k := 2) h55) ?_
  refine ac (s_lret (M := M_Ml_valueByDigits) (pc := 56) h56 rfl) ?_
  exact ac_nil
theorem e0_Ml_digitAt : decode prog_3_method_14_code 0 = .ok (.aload_n 0, 1) ∧ decode prog_3_method_14_code 1 = .ok (.iload_n 1, 1) ∧ decode prog_3_method_14_code 2 = .ok (.invokevirtual 90, 3) ∧ decode prog_3_method_14_code 5 = .ok (.lstore_n 3, 1) ∧ decode prog_3_method_14_code 6 = .ok (.iconst 0, 1) ∧ decode prog_3_method_14_code 7 = .ok (.istore 5, 2) ∧ decode prog_3_method_14_code 9 = .ok (.iload 5, 2) ∧ decode prog_3_method_14_code 11 = .ok (.iload_n 2, 1) ∧ decode prog_3_method_14_code 12 = .ok (.if_icmp .ge 36, 3) ∧ decode prog_3_method_14_code 15 = .ok (.iload 5, 2) ∧ decode prog_3_method_14_code 17 = .ok (.aload_n 0, 1) ∧ decode prog_3_method_14_code 18 = .ok (.getfield 12, 3) := by decide +kernel
theorem e1_Ml_digitAt : decode prog_3_method_14_code 21 = .ok (.getfield 93, 3) ∧ decode prog_3_method_14_code 24 = .ok (.if_icmp .ge 24, 3) ∧ decode prog_3_method_14_code 27 = .ok (.lload_n 3, 1) ∧ decode prog_3_method_14_code 28 = .ok (.aload_n 0, 1) ∧ decode prog_3_method_14_code 29 = .ok (.getfield 12, 3) ∧ decode prog_3_method_14_code 32 = .ok (.iload 5, 2) ∧ decode prog_3_method_14_code 34 = .ok (.invokevirtual 76, 3) ∧ decode prog_3_method_14_code 37 = .ok (.i2l, 1) ∧ decode prog_3_method_14_code 38 = .ok (.invokestatic 96, 3) ∧ decode prog_3_method_14_code 41 = .ok (.lstore_n 3, 1) ∧ decode prog_3_method_14_code 42 = .ok (.iinc 5 1, 3) ∧ decode prog_3_method_14_code 45 = .ok (.goto (-36), 3) := by decide +kernel
theorem e2_Ml_digitAt : decode prog_3_method_14_code 48 = .ok (.lload_n 3, 1) ∧ decode prog_3_method_14_code 49 = .ok (.aload_n 0, 1) ∧ decode prog_3_method_14_code 50 = .ok (.getfield 12, 3) ∧ decode prog_3_method_14_code 53 = .ok (.iload_n 2, 1) ∧ decode prog_3_method_14_code 54 = .ok (.invokevirtual 76, 3) ∧ decode prog_3_method_14_code 57 = .ok (.i2l, 1) ∧ decode prog_3_method_14_code 58 = .ok (.invokestatic 73, 3) ∧ decode prog_3_method_14_code 61 = .ok (.l2i, 1) ∧ decode prog_3_method_14_code 62 = .ok (.ireturn, 1) := by decide +kernel
def T_Ml_digitAt : TT := [(0, o_ald 0 1), (1, o_ild 1 2), (2, o_callV M_Ml_valueAt 1 2 5), (5, o_lst 3 6), (6, o_push (.int (iI (0))) 7), (7, o_ist 5 9), (9, o_ild 5 11), (11, o_ild 2 12), (12, o_icmp_ge 48 15), (15, o_ild 5 17), (17, o_ald 0 18), (18, o_get 1 0 21), (21, o_get 2 2 24), (24, o_icmp_ge 48 27), (27, o_lld 3 28), (28, o_ald 0 29), (29, o_get 1 0 32), (32, o_ild 5 34), (34, o_callV M_Mo_at 2 2 37), (37, o_i2l 38), (38, o_callN M_R_floorQuotient 2 41), (41, o_lst 3 42), (42, o_iinc 5 (iI (1)) 45), (45, o_goto 9), (48, o_lld 3 49), (49, o_ald 0 50), (50, o_get 1 0 53), (53, o_ild 2 54), (54, o_callV M_Mo_at 2 2 57), (57, o_i2l 58), (58, o_callN M_R_floorRest 2 61), (61, o_l2i 62), (62, o_iret)]
theorem k_Ml_digitAt : ∀ x ∈ T_Ml_digitAt, SO M_Ml_digitAt x.1 x.2 := by
  obtain ⟨h0, h1, h2, h5, h6, h7, h9, h11, h12, h15, h17, h18⟩ := e0_Ml_digitAt
  obtain ⟨h21, h24, h27, h28, h29, h32, h34, h37, h38, h41, h42, h45⟩ := e1_Ml_digitAt
  obtain ⟨h48, h49, h50, h53, h54, h57, h58, h61, h62⟩ := e2_Ml_digitAt
  refine ac (s_aldn (M := M_Ml_digitAt) (pc := 0) (k := 0) h0) ?_
  refine ac (s_ildn (M := M_Ml_digitAt) (pc := 1) (k := 1) h1) ?_
  refine ac (s_callV (M := M_Ml_digitAt) (pc := 2) (tz_Ml rfl) h2 q_Ml_valueAt wd520 wd492 wd493 rfl (T := TX1) (N := 4) rfl) ?_
  refine ac (s_lstn (M := M_Ml_digitAt) (pc := 5) (k := 3) h5 (by decide)) ?_
  refine ac (s_iconst (M := M_Ml_digitAt) (pc := 6) h6 rfl) ?_
  refine ac (s_ist (M := M_Ml_digitAt) (pc := 7) h7 (by decide)) ?_
  refine ac (s_ild (M := M_Ml_digitAt) (pc := 9) h9) ?_
  refine ac (s_ildn (M := M_Ml_digitAt) (pc := 11) (k := 2) h11) ?_
  refine ac (s_icmp_ge (M := M_Ml_digitAt) (pc := 12) h12 (by decide)) ?_
  refine ac (s_ild (M := M_Ml_digitAt) (pc := 15) h15) ?_
  refine ac (s_aldn (M := M_Ml_digitAt) (pc := 17) (k := 0) h17) ?_
  refine ac (s_get (M := M_Ml_digitAt) (pc := 18) (T := TX1) (N := 4) h18 rfl in_X1 (by decide) wd99) ?_
  refine ac (s_get (M := M_Ml_digitAt) (pc := 21) (T := TX2) (N := 6) h21 rfl in_X2 (by decide) wd75) ?_
  refine ac (s_icmp_ge (M := M_Ml_digitAt) (pc := 24) h24 (by decide)) ?_
  refine ac (s_lldn (M := M_Ml_digitAt) (pc := 27) (k := 3) h27) ?_
  refine ac (s_aldn (M := M_Ml_digitAt) (pc := 28) (k := 0) h28) ?_
  refine ac (s_get (M := M_Ml_digitAt) (pc := 29) (T := TX1) (N := 4) h29 rfl in_X1 (by decide) wd99) ?_
  refine ac (s_ild (M := M_Ml_digitAt) (pc := 32) h32) ?_
  refine ac (s_callV (M := M_Ml_digitAt) (pc := 34) (tz_Ml rfl) h34 q_Mo_at wd467 wd263 wd264 rfl (T := TX2) (N := 6) rfl) ?_
  refine ac (s_i2l (M := M_Ml_digitAt) (pc := 37) h37) ?_
  refine ac (s_callN (M := M_Ml_digitAt) (pc := 38) (k := 3) (tz_Ml rfl) h38 q_R_floorQuotient rfl wd267) ?_
  refine ac (s_lstn (M := M_Ml_digitAt) (pc := 41) (k := 3) h41 (by decide)) ?_
  refine ac (s_iinc (M := M_Ml_digitAt) (pc := 42) h42 rfl (by decide)) ?_
  refine ac (s_goto (M := M_Ml_digitAt) (pc := 45) h45 (by decide)) ?_
  refine ac (s_lldn (M := M_Ml_digitAt) (pc := 48) (k := 3) h48) ?_
  refine ac (s_aldn (M := M_Ml_digitAt) (pc := 49) (k := 0) h49) ?_
  refine ac (s_get (M := M_Ml_digitAt) (pc := 50) (T := TX1) (N := 4) h50 rfl in_X1 (by decide) wd99) ?_
  refine ac (s_ildn (M := M_Ml_digitAt) (pc := 53) (k := 2) h53) ?_
  refine ac (s_callV (M := M_Ml_digitAt) (pc := 54) (tz_Ml rfl) h54 q_Mo_at wd467 wd263 wd264 rfl (T := TX2) (N := 6) rfl) ?_
  refine ac (s_i2l (M := M_Ml_digitAt) (pc := 57) h57) ?_
  refine ac (s_callN (M := M_Ml_digitAt) (pc := 58) (k := 2) (tz_Ml rfl) h58 q_R_floorRest rfl wd276) ?_
  refine ac (s_l2i (M := M_Ml_digitAt) (pc := 61) h61) ?_
  refine ac (s_iret (M := M_Ml_digitAt) (pc := 62) h62 rfl) ?_
  exact ac_nil
theorem e0_Ml_faultsAt : decode prog_3_method_24_code 0 = .ok (.iconst 0, 1) ∧ decode prog_3_method_24_code 1 = .ok (.istore_n 2, 1) ∧ decode prog_3_method_24_code 2 = .ok (.aload_n 0, 1) ∧ decode prog_3_method_24_code 3 = .ok (.iload_n 1, 1) ∧ decode prog_3_method_24_code 4 = .ok (.invokevirtual 113, 3) ∧ decode prog_3_method_24_code 7 = .ok (.ifCond .eq 5, 3) ∧ decode prog_3_method_24_code 10 = .ok (.iload_n 2, 1) ∧ decode prog_3_method_24_code 11 = .ok (.ireturn, 1) ∧ decode prog_3_method_24_code 12 = .ok (.iconst 0, 1) ∧ decode prog_3_method_24_code 13 = .ok (.istore_n 3, 1) ∧ decode prog_3_method_24_code 14 = .ok (.iload_n 3, 1) ∧ decode prog_3_method_24_code 15 = .ok (.aload_n 0, 1) := by decide +kernel
theorem e1_Ml_faultsAt : decode prog_3_method_24_code 16 = .ok (.getfield 12, 3) ∧ decode prog_3_method_24_code 19 = .ok (.getfield 93, 3) ∧ decode prog_3_method_24_code 22 = .ok (.if_icmp .ge 25, 3) ∧ decode prog_3_method_24_code 25 = .ok (.aload_n 0, 1) ∧ decode prog_3_method_24_code 26 = .ok (.iload_n 1, 1) ∧ decode prog_3_method_24_code 27 = .ok (.iload_n 3, 1) ∧ decode prog_3_method_24_code 28 = .ok (.invokevirtual 117, 3) ∧ decode prog_3_method_24_code 31 = .ok (.iconst (-1), 1) ∧ decode prog_3_method_24_code 32 = .ok (.if_icmp .eq 9, 3) ∧ decode prog_3_method_24_code 35 = .ok (.iload_n 2, 1) ∧ decode prog_3_method_24_code 36 = .ok (.iconst 1, 1) ∧ decode prog_3_method_24_code 37 = .ok (.iload_n 3, 1) := by decide +kernel
theorem e2_Ml_faultsAt : decode prog_3_method_24_code 38 = .ok (.ishl, 1) ∧ decode prog_3_method_24_code 39 = .ok (.ior, 1) ∧ decode prog_3_method_24_code 40 = .ok (.istore_n 2, 1) ∧ decode prog_3_method_24_code 41 = .ok (.iinc 3 1, 3) ∧ decode prog_3_method_24_code 44 = .ok (.goto (-30), 3) ∧ decode prog_3_method_24_code 47 = .ok (.iload_n 2, 1) ∧ decode prog_3_method_24_code 48 = .ok (.ireturn, 1) := by decide +kernel
def T_Ml_faultsAt : TT := [(0, o_push (.int (iI (0))) 1), (1, o_ist 2 2), (2, o_ald 0 3), (3, o_ild 1 4), (4, o_callV M_Ml_soundAt 1 2 7), (7, o_if_eq 12 10), (10, o_ild 2 11), (11, o_iret), (12, o_push (.int (iI (0))) 13), (13, o_ist 3 14), (14, o_ild 3 15), (15, o_ald 0 16), (16, o_get 1 0 19), (19, o_get 2 2 22), (22, o_icmp_ge 47 25), (25, o_ald 0 26), (26, o_ild 1 27), (27, o_ild 3 28), (28, o_callV M_Ml_soundRest 1 3 31), (31, o_push (.int (iI (-1))) 32), (32, o_icmp_eq 41 35), (35, o_ild 2 36), (36, o_push (.int (iI (1))) 37), (37, o_ild 3 38), (38, o_ishl 39), (39, o_ior 40), (40, o_ist 2 41), (41, o_iinc 3 (iI (1)) 44), (44, o_goto 14), (47, o_ild 2 48), (48, o_iret)]
theorem k_Ml_faultsAt : ∀ x ∈ T_Ml_faultsAt, SO M_Ml_faultsAt x.1 x.2 := by
  obtain ⟨h0, h1, h2, h3, h4, h7, h10, h11, h12, h13, h14, h15⟩ := e0_Ml_faultsAt
  obtain ⟨h16, h19, h22, h25, h26, h27, h28, h31, h32, h35, h36, h37⟩ := e1_Ml_faultsAt
  obtain ⟨h38, h39, h40, h41, h44, h47, h48⟩ := e2_Ml_faultsAt
  refine ac (s_iconst (M := M_Ml_faultsAt) (pc := 0) h0 rfl) ?_
  refine ac (s_istn (M := M_Ml_faultsAt) (pc := 1) (k := 2) h1 (by decide)) ?_
  refine ac (s_aldn (M := M_Ml_faultsAt) (pc := 2) (k := 0) h2) ?_
  refine ac (s_ildn (M := M_Ml_faultsAt) (pc := 3) (k := 1) h3) ?_
  refine ac (s_callV (M := M_Ml_faultsAt) (pc := 4) (tz_Ml rfl) h4 q_Ml_soundAt wd330 wd331 wd332 rfl (T := TX1) (N := 4) rfl) ?_
  refine ac (s_if_eq (M := M_Ml_faultsAt) (pc := 7) h7 (by decide)) ?_
  refine ac (s_ildn (M := M_Ml_faultsAt) (pc := 10) (k := 2) h10) ?_
  refine ac (s_iret (M := M_Ml_faultsAt) (pc := 11) h11 rfl) ?_
  refine ac (s_iconst (M := M_Ml_faultsAt) (pc := 12) h12 rfl) ?_
  refine ac (s_istn (M := M_Ml_faultsAt) (pc := 13) (k := 3) h13 (by decide)) ?_
  refine ac (s_ildn (M := M_Ml_faultsAt) (pc := 14) (k := 3) h14) ?_
  refine ac (s_aldn (M := M_Ml_faultsAt) (pc := 15) (k := 0) h15) ?_
  refine ac (s_get (M := M_Ml_faultsAt) (pc := 16) (T := TX1) (N := 4) h16 rfl in_X1 (by decide) wd99) ?_
  refine ac (s_get (M := M_Ml_faultsAt) (pc := 19) (T := TX2) (N := 6) h19 rfl in_X2 (by decide) wd75) ?_
  refine ac (s_icmp_ge (M := M_Ml_faultsAt) (pc := 22) h22 (by decide)) ?_
  refine ac (s_aldn (M := M_Ml_faultsAt) (pc := 25) (k := 0) h25) ?_
  refine ac (s_ildn (M := M_Ml_faultsAt) (pc := 26) (k := 1) h26) ?_
  refine ac (s_ildn (M := M_Ml_faultsAt) (pc := 27) (k := 3) h27) ?_
  refine ac (s_callV (M := M_Ml_faultsAt) (pc := 28) (tz_Ml rfl) h28 q_Ml_soundRest wd533 wd534 wd535 rfl (T := TX1) (N := 4) rfl) ?_
  refine ac (s_iconst (M := M_Ml_faultsAt) (pc := 31) h31 rfl) ?_
  refine ac (s_icmp_eq (M := M_Ml_faultsAt) (pc := 32) h32 (by decide)) ?_
  refine ac (s_ildn (M := M_Ml_faultsAt) (pc := 35) (k := 2) h35) ?_
  refine ac (s_iconst (M := M_Ml_faultsAt) (pc := 36) h36 rfl) ?_
  refine ac (s_ildn (M := M_Ml_faultsAt) (pc := 37) (k := 3) h37) ?_
  refine ac (s_ishl (M := M_Ml_faultsAt) (pc := 38) h38) ?_
  refine ac (s_ior (M := M_Ml_faultsAt) (pc := 39) h39) ?_
  refine ac (s_istn (M := M_Ml_faultsAt) (pc := 40) (k := 2) h40 (by decide)) ?_
  refine ac (s_iinc (M := M_Ml_faultsAt) (pc := 41) h41 rfl (by decide)) ?_
  refine ac (s_goto (M := M_Ml_faultsAt) (pc := 44) h44 (by decide)) ?_
  refine ac (s_ildn (M := M_Ml_faultsAt) (pc := 47) (k := 2) h47) ?_
  refine ac (s_iret (M := M_Ml_faultsAt) (pc := 48) h48 rfl) ?_
  exact ac_nil
theorem e0_Ml_soundRest : decode prog_3_method_23_code 0 = .ok (.aload_n 0, 1) ∧ decode prog_3_method_23_code 1 = .ok (.getfield 12, 3) ∧ decode prog_3_method_23_code 4 = .ok (.iload_n 2, 1) ∧ decode prog_3_method_23_code 5 = .ok (.invokevirtual 106, 3) ∧ decode prog_3_method_23_code 8 = .ok (.lstore_n 3, 1) ∧ decode prog_3_method_23_code 9 = .ok (.aload_n 0, 1) ∧ decode prog_3_method_23_code 10 = .ok (.iload_n 1, 1) ∧ decode prog_3_method_23_code 11 = .ok (.invokevirtual 65, 3) ∧ decode prog_3_method_23_code 14 = .ok (.aload_n 0, 1) ∧ decode prog_3_method_23_code 15 = .ok (.iload_n 1, 1) ∧ decode prog_3_method_23_code 16 = .ok (.iload_n 2, 1) ∧ decode prog_3_method_23_code 17 = .ok (.invokevirtual 103, 3) := by decide +kernel
theorem e1_Ml_soundRest : decode prog_3_method_23_code 20 = .ok (.i2l, 1) ∧ decode prog_3_method_23_code 21 = .ok (.lload_n 3, 1) ∧ decode prog_3_method_23_code 22 = .ok (.lmul, 1) ∧ decode prog_3_method_23_code 23 = .ok (.lsub, 1) ∧ decode prog_3_method_23_code 24 = .ok (.lstore 5, 2) ∧ decode prog_3_method_23_code 26 = .ok (.iconst 0, 1) ∧ decode prog_3_method_23_code 27 = .ok (.istore 7, 2) ∧ decode prog_3_method_23_code 29 = .ok (.iload 7, 2) ∧ decode prog_3_method_23_code 31 = .ok (.aload_n 0, 1) ∧ decode prog_3_method_23_code 32 = .ok (.getfield 12, 3) ∧ decode prog_3_method_23_code 35 = .ok (.iload_n 2, 1) ∧ decode prog_3_method_23_code 36 = .ok (.invokevirtual 76, 3) := by decide +kernel
theorem e2_Ml_soundRest : decode prog_3_method_23_code 39 = .ok (.if_icmp .ge 40, 3) ∧ decode prog_3_method_23_code 42 = .ok (.aload_n 0, 1) ∧ decode prog_3_method_23_code 43 = .ok (.getfield 12, 3) ∧ decode prog_3_method_23_code 46 = .ok (.lload 5, 2) ∧ decode prog_3_method_23_code 48 = .ok (.aload_n 0, 1) ∧ decode prog_3_method_23_code 49 = .ok (.getfield 12, 3) ∧ decode prog_3_method_23_code 52 = .ok (.getfield 57, 3) ∧ decode prog_3_method_23_code 55 = .ok (.invokestatic 61, 3) ∧ decode prog_3_method_23_code 58 = .ok (.invokevirtual 80, 3) ∧ decode prog_3_method_23_code 61 = .ok (.ifCond .eq 6, 3) ∧ decode prog_3_method_23_code 64 = .ok (.iload 7, 2) ∧ decode prog_3_method_23_code 66 = .ok (.ireturn, 1) := by decide +kernel
theorem e3_Ml_soundRest : decode prog_3_method_23_code 67 = .ok (.lload 5, 2) ∧ decode prog_3_method_23_code 69 = .ok (.lload_n 3, 1) ∧ decode prog_3_method_23_code 70 = .ok (.ladd, 1) ∧ decode prog_3_method_23_code 71 = .ok (.lstore 5, 2) ∧ decode prog_3_method_23_code 73 = .ok (.iinc 7 1, 3) ∧ decode prog_3_method_23_code 76 = .ok (.goto (-47), 3) ∧ decode prog_3_method_23_code 79 = .ok (.iconst (-1), 1) ∧ decode prog_3_method_23_code 80 = .ok (.ireturn, 1) := by decide +kernel
def T_Ml_soundRest : TT := [(0, o_ald 0 1), (1, o_get 1 0 4), (4, o_ild 2 5), (5, o_callV M_Mo_weightAt 2 2 8), (8, o_lst 3 9), (9, o_ald 0 10), (10, o_ild 1 11), (11, o_callV M_Ml_numberAt 1 2 14), (14, o_ald 0 15), (15, o_ild 1 16), (16, o_ild 2 17), (17, o_callV M_Ml_restAt 1 3 20), (20, o_i2l 21), (21, o_lld 3 22), (22, o_lmul 23), (23, o_lsub 24), (24, o_lst 5 26), (26, o_push (.int (iI (0))) 27), (27, o_ist 7 29), (29, o_ild 7 31), (31, o_ald 0 32), (32, o_get 1 0 35), (35, o_ild 2 36), (36, o_callV M_Mo_at 2 2 39), (39, o_icmp_ge 79 42), (42, o_ald 0 43), (43, o_get 1 0 46), (46, o_lld 5 48), (48, o_ald 0 49), (49, o_get 1 0 52), (52, o_get 2 4 55), (55, o_callN M_R_numberIn 2 58), (58, o_callV M_Mo_fits 2 2 61), (61, o_if_eq 67 64), (64, o_ild 7 66), (66, o_iret), (67, o_lld 5 69), (69, o_lld 3 70), (70, o_ladd 71), (71, o_lst 5 73), (73, o_iinc 7 (iI (1)) 76), (76, o_goto 29), (79, o_push (.int (iI (-1))) 80), (80, o_iret)]
theorem k_Ml_soundRest : ∀ x ∈ T_Ml_soundRest, SO M_Ml_soundRest x.1 x.2 := by
  obtain ⟨h0, h1, h4, h5, h8, h9, h10, h11, h14, h15, h16, h17⟩ := e0_Ml_soundRest
  obtain ⟨h20, h21, h22, h23, h24, h26, h27, h29, h31, h32, h35, h36⟩ := e1_Ml_soundRest
  obtain ⟨h39, h42, h43, h46, h48, h49, h52, h55, h58, h61, h64, h66⟩ := e2_Ml_soundRest
  obtain ⟨h67, h69, h70, h71, h73, h76, h79, h80⟩ := e3_Ml_soundRest
  refine ac (s_aldn (M := M_Ml_soundRest) (pc := 0) (k := 0) h0) ?_
  refine ac (s_get (M := M_Ml_soundRest) (pc := 1) (T := TX1) (N := 4) h1 rfl in_X1 (by decide) wd99) ?_
  refine ac (s_ildn (M := M_Ml_soundRest) (pc := 4) (k := 2) h4) ?_
  refine ac (s_callV (M := M_Ml_soundRest) (pc := 5) (tz_Ml rfl) h5 q_Mo_weightAt wd508 wd509 wd510 rfl (T := TX2) (N := 6) rfl) ?_
  refine ac (s_lstn (M := M_Ml_soundRest) (pc := 8) (k := 3) h8 (by decide)) ?_
  refine ac (s_aldn (M := M_Ml_soundRest) (pc := 9) (k := 0) h9) ?_
  refine ac (s_ildn (M := M_Ml_soundRest) (pc := 10) (k := 1) h10) ?_
  refine ac (s_callV (M := M_Ml_soundRest) (pc := 11) (tz_Ml rfl) h11 q_Ml_numberAt wd334 wd335 wd336 rfl (T := TX1) (N := 4) rfl) ?_
  refine ac (s_aldn (M := M_Ml_soundRest) (pc := 14) (k := 0) h14) ?_
  refine ac (s_ildn (M := M_Ml_soundRest) (pc := 15) (k := 1) h15) ?_
  refine ac (s_ildn (M := M_Ml_soundRest) (pc := 16) (k := 2) h16) ?_
  refine ac (s_callV (M := M_Ml_soundRest) (pc := 17) (tz_Ml rfl) h17 q_Ml_restAt wd507 wd464 wd465 rfl (T := TX1) (N := 4) rfl) ?_
  refine ac (s_i2l (M := M_Ml_soundRest) (pc := 20) h20) ?_
  refine ac (s_lldn (M := M_Ml_soundRest) (pc := 21) (k := 3) h21) ?_
  refine ac (s_lmul (M := M_Ml_soundRest) (pc := 22) h22) ?_
  refine ac (s_lsub (M := M_Ml_soundRest) (pc := 23) h23) ?_
  refine ac (s_lst (M := M_Ml_soundRest) (pc := 24) h24 (by decide)) ?_
  refine ac (s_iconst (M := M_Ml_soundRest) (pc := 26) h26 rfl) ?_
  refine ac (s_ist (M := M_Ml_soundRest) (pc := 27) h27 (by decide)) ?_
  refine ac (s_ild (M := M_Ml_soundRest) (pc := 29) h29) ?_
  refine ac (s_aldn (M := M_Ml_soundRest) (pc := 31) (k := 0) h31) ?_
  refine ac (s_get (M := M_Ml_soundRest) (pc := 32) (T := TX1) (N := 4) h32 rfl in_X1 (by decide) wd99) ?_
  refine ac (s_ildn (M := M_Ml_soundRest) (pc := 35) (k := 2) h35) ?_
  refine ac (s_callV (M := M_Ml_soundRest) (pc := 36) (tz_Ml rfl) h36 q_Mo_at wd467 wd263 wd264 rfl (T := TX2) (N := 6) rfl) ?_
  refine ac (s_icmp_ge (M := M_Ml_soundRest) (pc := 39) h39 (by decide)) ?_
  refine ac (s_aldn (M := M_Ml_soundRest) (pc := 42) (k := 0) h42) ?_
  refine ac (s_get (M := M_Ml_soundRest) (pc := 43) (T := TX1) (N := 4) h43 rfl in_X1 (by decide) wd99) ?_
  refine ac (s_lld (M := M_Ml_soundRest) (pc := 46) h46) ?_
  refine ac (s_aldn (M := M_Ml_soundRest) (pc := 48) (k := 0) h48) ?_
  refine ac (s_get (M := M_Ml_soundRest) (pc := 49) (T := TX1) (N := 4) h49 rfl in_X1 (by decide) wd99) ?_
  refine ac (s_get (M := M_Ml_soundRest) (pc := 52) (T := TX2) (N := 6) h52 rfl in_X2 (by decide) wd79) ?_
  refine ac (s_callN (M := M_Ml_soundRest) (pc := 55) (k := 4) (tz_Ml rfl) h55 q_R_numberIn rfl wd538) ?_
  refine ac (s_callV (M := M_Ml_soundRest) (pc := 58) (tz_Ml rfl) h58 q_Mo_fits wd338 wd339 wd340 rfl (T := TX2) (N := 6) rfl) ?_
  refine ac (s_if_eq (M := M_Ml_soundRest) (pc := 61) h61 (by decide)) ?_
  refine ac (s_ild (M := M_Ml_soundRest) (pc := 64) h64) ?_
  refine ac (s_iret (M := M_Ml_soundRest) (pc := 66) h66 rfl) ?_
  refine ac (s_lld (M := M_Ml_soundRest) (pc := 67) h67) ?_
  refine ac (s_lldn (M := M_Ml_soundRest) (pc := 69) (k := 3) h69) ?_
  refine ac (s_ladd (M := M_Ml_soundRest) (pc := 70) h70) ?_
  refine ac (s_lst (M := M_Ml_soundRest) (pc := 71) h71 (by decide)) ?_
  refine ac (s_iinc (M := M_Ml_soundRest) (pc := 73) h73 rfl (by decide)) ?_
  refine ac (s_goto (M := M_Ml_soundRest) (pc := 76) h76 (by decide)) ?_
  refine ac (s_iconst (M := M_Ml_soundRest) (pc := 79) h79 rfl) ?_
  refine ac (s_iret (M := M_Ml_soundRest) (pc := 80) h80 rfl) ?_
  exact ac_nil
theorem e0_Ml_numberWithRest : decode prog_3_method_22_code 0 = .ok (.iload_n 3, 1) ∧ decode prog_3_method_22_code 1 = .ok (.aload_n 0, 1) ∧ decode prog_3_method_22_code 2 = .ok (.iload_n 1, 1) ∧ decode prog_3_method_22_code 3 = .ok (.iload_n 2, 1) ∧ decode prog_3_method_22_code 4 = .ok (.invokevirtual 103, 3) ∧ decode prog_3_method_22_code 7 = .ok (.isub, 1) ∧ decode prog_3_method_22_code 8 = .ok (.i2l, 1) ∧ decode prog_3_method_22_code 9 = .ok (.aload_n 0, 1) ∧ decode prog_3_method_22_code 10 = .ok (.getfield 12, 3) ∧ decode prog_3_method_22_code 13 = .ok (.iload_n 2, 1) ∧ decode prog_3_method_22_code 14 = .ok (.invokevirtual 106, 3) ∧ decode prog_3_method_22_code 17 = .ok (.lmul, 1) := by decide +kernel
theorem e1_Ml_numberWithRest : decode prog_3_method_22_code 18 = .ok (.lstore 4, 2) ∧ decode prog_3_method_22_code 20 = .ok (.aload_n 0, 1) ∧ decode prog_3_method_22_code 21 = .ok (.iload_n 1, 1) ∧ decode prog_3_method_22_code 22 = .ok (.invokevirtual 65, 3) ∧ decode prog_3_method_22_code 25 = .ok (.lload 4, 2) ∧ decode prog_3_method_22_code 27 = .ok (.ladd, 1) ∧ decode prog_3_method_22_code 28 = .ok (.aload_n 0, 1) ∧ decode prog_3_method_22_code 29 = .ok (.getfield 12, 3) ∧ decode prog_3_method_22_code 32 = .ok (.getfield 57, 3) ∧ decode prog_3_method_22_code 35 = .ok (.invokestatic 61, 3) ∧ decode prog_3_method_22_code 38 = .ok (.lreturn, 1) := by decide +kernel
def T_Ml_numberWithRest : TT := [(0, o_ild 3 1), (1, o_ald 0 2), (2, o_ild 1 3), (3, o_ild 2 4), (4, o_callV M_Ml_restAt 1 3 7), (7, o_isub 8), (8, o_i2l 9), (9, o_ald 0 10), (10, o_get 1 0 13), (13, o_ild 2 14), (14, o_callV M_Mo_weightAt 2 2 17), (17, o_lmul 18), (18, o_lst 4 20), (20, o_ald 0 21), (21, o_ild 1 22), (22, o_callV M_Ml_numberAt 1 2 25), (25, o_lld 4 27), (27, o_ladd 28), (28, o_ald 0 29), (29, o_get 1 0 32), (32, o_get 2 4 35), (35, o_callN M_R_numberIn 2 38), (38, o_lret)]
theorem k_Ml_numberWithRest : ∀ x ∈ T_Ml_numberWithRest, SO M_Ml_numberWithRest x.1 x.2 := by
  obtain ⟨h0, h1, h2, h3, h4, h7, h8, h9, h10, h13, h14, h17⟩ := e0_Ml_numberWithRest
  obtain ⟨h18, h20, h21, h22, h25, h27, h28, h29, h32, h35, h38⟩ := e1_Ml_numberWithRest
  refine ac (s_ildn (M := M_Ml_numberWithRest) (pc := 0) (k := 3) h0) ?_
  refine ac (s_aldn (M := M_Ml_numberWithRest) (pc := 1) (k := 0) h1) ?_
  refine ac (s_ildn (M := M_Ml_numberWithRest) (pc := 2) (k := 1) h2) ?_
  refine ac (s_ildn (M := M_Ml_numberWithRest) (pc := 3) (k := 2) h3) ?_
  refine ac (s_callV (M := M_Ml_numberWithRest) (pc := 4) (tz_Ml rfl) h4 q_Ml_restAt wd507 wd464 wd465 rfl (T := TX1) (N := 4) rfl) ?_
  refine ac (s_isub (M := M_Ml_numberWithRest) (pc := 7) h7) ?_
  refine ac (s_i2l (M := M_Ml_numberWithRest) (pc := 8) h8) ?_
  refine ac (s_aldn (M := M_Ml_numberWithRest) (pc := 9) (k := 0) h9) ?_
  refine ac (s_get (M := M_Ml_numberWithRest) (pc := 10) (T := TX1) (N := 4) h10 rfl in_X1 (by decide) wd99) ?_
  refine ac (s_ildn (M := M_Ml_numberWithRest) (pc := 13) (k := 2) h13) ?_
  refine ac (s_callV (M := M_Ml_numberWithRest) (pc := 14) (tz_Ml rfl) h14 q_Mo_weightAt wd508 wd509 wd510 rfl (T := TX2) (N := 6) rfl) ?_
  refine ac (s_lmul (M := M_Ml_numberWithRest) (pc := 17) h17) ?_
  refine ac (s_lst (M := M_Ml_numberWithRest) (pc := 18) h18 (by decide)) ?_
  refine ac (s_aldn (M := M_Ml_numberWithRest) (pc := 20) (k := 0) h20) ?_
  refine ac (s_ildn (M := M_Ml_numberWithRest) (pc := 21) (k := 1) h21) ?_
  refine ac (s_callV (M := M_Ml_numberWithRest) (pc := 22) (tz_Ml rfl) h22 q_Ml_numberAt wd334 wd335 wd336 rfl (T := TX1) (N := 4) rfl) ?_
  refine ac (s_lld (M := M_Ml_numberWithRest) (pc := 25) h25) ?_
  refine ac (s_ladd (M := M_Ml_numberWithRest) (pc := 27) h27) ?_
  refine ac (s_aldn (M := M_Ml_numberWithRest) (pc := 28) (k := 0) h28) ?_
  refine ac (s_get (M := M_Ml_numberWithRest) (pc := 29) (T := TX1) (N := 4) h29 rfl in_X1 (by decide) wd99) ?_
  refine ac (s_get (M := M_Ml_numberWithRest) (pc := 32) (T := TX2) (N := 6) h32 rfl in_X2 (by decide) wd79) ?_
  refine ac (s_callN (M := M_Ml_numberWithRest) (pc := 35) (k := 4) (tz_Ml rfl) h35 q_R_numberIn rfl wd538) ?_
  refine ac (s_lret (M := M_Ml_numberWithRest) (pc := 38) h38 rfl) ?_
  exact ac_nil
theorem e0_Ml_copyFrom : decode prog_3_method_2_code 0 = .ok (.aload_n 0, 1) ∧ decode prog_3_method_2_code 1 = .ok (.getfield 12, 3) ∧ decode prog_3_method_2_code 4 = .ok (.aload_n 1, 1) ∧ decode prog_3_method_2_code 5 = .ok (.getfield 12, 3) ∧ decode prog_3_method_2_code 8 = .ok (.invokevirtual 26, 3) ∧ decode prog_3_method_2_code 11 = .ok (.aload_n 1, 1) ∧ decode prog_3_method_2_code 12 = .ok (.getfield 18, 3) ∧ decode prog_3_method_2_code 15 = .ok (.aload_n 0, 1) ∧ decode prog_3_method_2_code 16 = .ok (.getfield 18, 3) ∧ decode prog_3_method_2_code 19 = .ok (.invokestatic 30, 3) ∧ decode prog_3_method_2_code 22 = .ok (.aload_n 1, 1) ∧ decode prog_3_method_2_code 23 = .ok (.getfield 22, 3) := by decide +kernel
theorem e1_Ml_copyFrom : decode prog_3_method_2_code 26 = .ok (.aload_n 0, 1) ∧ decode prog_3_method_2_code 27 = .ok (.getfield 22, 3) ∧ decode prog_3_method_2_code 30 = .ok (.invokestatic 34, 3) ∧ decode prog_3_method_2_code 33 = .ok (.aload_n 0, 1) ∧ decode prog_3_method_2_code 34 = .ok (.aload_n 1, 1) ∧ decode prog_3_method_2_code 35 = .ok (.getfield 37, 3) ∧ decode prog_3_method_2_code 38 = .ok (.putfield 37, 3) ∧ decode prog_3_method_2_code 41 = .ok (.return_, 1) := by decide +kernel
def T_Ml_copyFrom : TT := [(0, o_ald 0 1), (1, o_get 1 0 4), (4, o_ald 1 5), (5, o_get 1 0 8), (8, o_callV M_Mo_copyFrom 2 2 11), (11, o_ald 1 12), (12, o_get 1 1 15), (15, o_ald 0 16), (16, o_get 1 1 19), (19, o_callN M_R_copyRow_AJAJ 2 22), (22, o_ald 1 23), (23, o_get 1 2 26), (26, o_ald 0 27), (27, o_get 1 2 30), (30, o_callN M_R_copyRow_AIAI 2 33), (33, o_ald 0 34), (34, o_ald 1 35), (35, o_get 1 3 38), (38, o_puti 1 3 41), (41, o_vret)]
theorem k_Ml_copyFrom : ∀ x ∈ T_Ml_copyFrom, SO M_Ml_copyFrom x.1 x.2 := by
  obtain ⟨h0, h1, h4, h5, h8, h11, h12, h15, h16, h19, h22, h23⟩ := e0_Ml_copyFrom
  obtain ⟨h26, h27, h30, h33, h34, h35, h38, h41⟩ := e1_Ml_copyFrom
  refine ac (s_aldn (M := M_Ml_copyFrom) (pc := 0) (k := 0) h0) ?_
  refine ac (s_get (M := M_Ml_copyFrom) (pc := 1) (T := TX1) (N := 4) h1 rfl in_X1 (by decide) wd99) ?_
  refine ac (s_aldn (M := M_Ml_copyFrom) (pc := 4) (k := 1) h4) ?_
  refine ac (s_get (M := M_Ml_copyFrom) (pc := 5) (T := TX1) (N := 4) h5 rfl in_X1 (by decide) wd99) ?_
  refine ac (s_callV (M := M_Ml_copyFrom) (pc := 8) (tz_Ml rfl) h8 q_Mo_copyFrom wd571 wd572 wd573 rfl (T := TX2) (N := 6) rfl) ?_
  refine ac (s_aldn (M := M_Ml_copyFrom) (pc := 11) (k := 1) h11) ?_
  refine ac (s_get (M := M_Ml_copyFrom) (pc := 12) (T := TX1) (N := 4) h12 rfl in_X1 (by decide) wd102) ?_
  refine ac (s_aldn (M := M_Ml_copyFrom) (pc := 15) (k := 0) h15) ?_
  refine ac (s_get (M := M_Ml_copyFrom) (pc := 16) (T := TX1) (N := 4) h16 rfl in_X1 (by decide) wd102) ?_
  refine ac (s_callN (M := M_Ml_copyFrom) (pc := 19) (k := 7) (tz_Ml rfl) h19 q_R_copyRow_AJAJ rfl wd579) ?_
  refine ac (s_aldn (M := M_Ml_copyFrom) (pc := 22) (k := 1) h22) ?_
  refine ac (s_get (M := M_Ml_copyFrom) (pc := 23) (T := TX1) (N := 4) h23 rfl in_X1 (by decide) wd103) ?_
  refine ac (s_aldn (M := M_Ml_copyFrom) (pc := 26) (k := 0) h26) ?_
  refine ac (s_get (M := M_Ml_copyFrom) (pc := 27) (T := TX1) (N := 4) h27 rfl in_X1 (by decide) wd103) ?_
  refine ac (s_callN (M := M_Ml_copyFrom) (pc := 30) (k := 8) (tz_Ml rfl) h30 q_R_copyRow_AIAI rfl wd576) ?_
  refine ac (s_aldn (M := M_Ml_copyFrom) (pc := 33) (k := 0) h33) ?_
  refine ac (s_aldn (M := M_Ml_copyFrom) (pc := 34) (k := 1) h34) ?_
  refine ac (s_get (M := M_Ml_copyFrom) (pc := 35) (T := TX1) (N := 4) h35 rfl in_X1 (by decide) wd104) ?_
  refine ac (s_puti (M := M_Ml_copyFrom) (pc := 38) (T := TX1) (N := 4) (ty0 := tyX1) h38 ⟨rfl, in_X1, by decide, wd104, tyX1_ok, nmX1, (Or.inl rfl)⟩ rfl) ?_
  refine ac (s_vret (M := M_Ml_copyFrom) (pc := 41) h41 rfl) ?_
  exact ac_nil
theorem e0_Ml_actSet : decode prog_3_method_29_code 0 = .ok (.aload_n 0, 1) ∧ decode prog_3_method_29_code 1 = .ok (.getfield 12, 3) ∧ decode prog_3_method_29_code 4 = .ok (.iload_n 2, 1) ∧ decode prog_3_method_29_code 5 = .ok (.i2l, 1) ∧ decode prog_3_method_29_code 6 = .ok (.invokevirtual 80, 3) ∧ decode prog_3_method_29_code 9 = .ok (.ifCond .eq 13, 3) ∧ decode prog_3_method_29_code 12 = .ok (.aload_n 0, 1) ∧ decode prog_3_method_29_code 13 = .ok (.iload_n 1, 1) ∧ decode prog_3_method_29_code 14 = .ok (.iload_n 2, 1) ∧ decode prog_3_method_29_code 15 = .ok (.i2l, 1) ∧ decode prog_3_method_29_code 16 = .ok (.invokevirtual 138, 3) ∧ decode prog_3_method_29_code 19 = .ok (.goto 8, 3) := by decide +kernel
theorem e1_Ml_actSet : decode prog_3_method_29_code 22 = .ok (.aload_n 0, 1) ∧ decode prog_3_method_29_code 23 = .ok (.iconst 5, 1) ∧ decode prog_3_method_29_code 24 = .ok (.invokevirtual 142, 3) ∧ decode prog_3_method_29_code 27 = .ok (.ireturn, 1) := by decide +kernel
def T_Ml_actSet : TT := [(0, o_ald 0 1), (1, o_get 1 0 4), (4, o_ild 2 5), (5, o_i2l 6), (6, o_callV M_Mo_fits 2 2 9), (9, o_if_eq 22 12), (12, o_ald 0 13), (13, o_ild 1 14), (14, o_ild 2 15), (15, o_i2l 16), (16, o_callV M_Ml_finish 1 3 19), (19, o_goto 27), (22, o_ald 0 23), (23, o_push (.int (iI (5))) 24), (24, o_callV M_Ml_refuse 1 2 27), (27, o_iret)]
theorem k_Ml_actSet : ∀ x ∈ T_Ml_actSet, SO M_Ml_actSet x.1 x.2 := by
  obtain ⟨h0, h1, h4, h5, h6, h9, h12, h13, h14, h15, h16, h19⟩ := e0_Ml_actSet
  obtain ⟨h22, h23, h24, h27⟩ := e1_Ml_actSet
  refine ac (s_aldn (M := M_Ml_actSet) (pc := 0) (k := 0) h0) ?_
  refine ac (s_get (M := M_Ml_actSet) (pc := 1) (T := TX1) (N := 4) h1 rfl in_X1 (by decide) wd99) ?_
  refine ac (s_ildn (M := M_Ml_actSet) (pc := 4) (k := 2) h4) ?_
  refine ac (s_i2l (M := M_Ml_actSet) (pc := 5) h5) ?_
  refine ac (s_callV (M := M_Ml_actSet) (pc := 6) (tz_Ml rfl) h6 q_Mo_fits wd338 wd339 wd340 rfl (T := TX2) (N := 6) rfl) ?_
  refine ac (s_if_eq (M := M_Ml_actSet) (pc := 9) h9 (by decide)) ?_
  refine ac (s_aldn (M := M_Ml_actSet) (pc := 12) (k := 0) h12) ?_
  refine ac (s_ildn (M := M_Ml_actSet) (pc := 13) (k := 1) h13) ?_
  refine ac (s_ildn (M := M_Ml_actSet) (pc := 14) (k := 2) h14) ?_
  refine ac (s_i2l (M := M_Ml_actSet) (pc := 15) h15) ?_
  refine ac (s_callV (M := M_Ml_actSet) (pc := 16) (tz_Ml rfl) h16 q_Ml_finish wd587 wd588 wd589 rfl (T := TX1) (N := 4) rfl) ?_
  refine ac (s_goto (M := M_Ml_actSet) (pc := 19) h19 (by decide)) ?_
  refine ac (s_aldn (M := M_Ml_actSet) (pc := 22) (k := 0) h22) ?_
  refine ac (s_iconst (M := M_Ml_actSet) (pc := 23) h23 rfl) ?_
  refine ac (s_callV (M := M_Ml_actSet) (pc := 24) (tz_Ml rfl) h24 q_Ml_refuse wd599 wd600 wd601 rfl (T := TX1) (N := 4) rfl) ?_
  refine ac (s_iret (M := M_Ml_actSet) (pc := 27) h27 rfl) ?_
  exact ac_nil
theorem e0_Ml_finish : decode prog_3_method_28_code 0 = .ok (.aload_n 0, 1) ∧ decode prog_3_method_28_code 1 = .ok (.iload_n 1, 1) ∧ decode prog_3_method_28_code 2 = .ok (.lload_n 2, 1) ∧ decode prog_3_method_28_code 3 = .ok (.invokevirtual 69, 3) ∧ decode prog_3_method_28_code 6 = .ok (.aload_n 0, 1) ∧ decode prog_3_method_28_code 7 = .ok (.iconst 0, 1) ∧ decode prog_3_method_28_code 8 = .ok (.invokevirtual 53, 3) ∧ decode prog_3_method_28_code 11 = .ok (.aload_n 0, 1) ∧ decode prog_3_method_28_code 12 = .ok (.iload_n 1, 1) ∧ decode prog_3_method_28_code 13 = .ok (.invokevirtual 113, 3) ∧ decode prog_3_method_28_code 16 = .ok (.ifCond .ne 9, 3) ∧ decode prog_3_method_28_code 19 = .ok (.aload_n 0, 1) := by decide +kernel
theorem e1_Ml_finish : decode prog_3_method_28_code 20 = .ok (.bipush 6, 2) ∧ decode prog_3_method_28_code 22 = .ok (.invokevirtual 53, 3) ∧ decode prog_3_method_28_code 25 = .ok (.iconst 0, 1) ∧ decode prog_3_method_28_code 26 = .ok (.ireturn, 1) := by decide +kernel
def T_Ml_finish : TT := [(0, o_ald 0 1), (1, o_ild 1 2), (2, o_lld 2 3), (3, o_callV M_Ml_put 1 3 6), (6, o_ald 0 7), (7, o_push (.int (iI (0))) 8), (8, o_callV M_Ml_book 1 2 11), (11, o_ald 0 12), (12, o_ild 1 13), (13, o_callV M_Ml_soundAt 1 2 16), (16, o_if_ne 25 19), (19, o_ald 0 20), (20, o_push (.int (iI (6))) 22), (22, o_callV M_Ml_book 1 2 25), (25, o_push (.int (iI (0))) 26), (26, o_iret)]
theorem k_Ml_finish : ∀ x ∈ T_Ml_finish, SO M_Ml_finish x.1 x.2 := by
  obtain ⟨h0, h1, h2, h3, h6, h7, h8, h11, h12, h13, h16, h19⟩ := e0_Ml_finish
  obtain ⟨h20, h22, h25, h26⟩ := e1_Ml_finish
  refine ac (s_aldn (M := M_Ml_finish) (pc := 0) (k := 0) h0) ?_
  refine ac (s_ildn (M := M_Ml_finish) (pc := 1) (k := 1) h1) ?_
  refine ac (s_lldn (M := M_Ml_finish) (pc := 2) (k := 2) h2) ?_
  refine ac (s_callV (M := M_Ml_finish) (pc := 3) (tz_Ml rfl) h3 q_Ml_put wd591 wd592 wd593 rfl (T := TX1) (N := 4) rfl) ?_
  refine ac (s_aldn (M := M_Ml_finish) (pc := 6) (k := 0) h6) ?_
  refine ac (s_iconst (M := M_Ml_finish) (pc := 7) h7 rfl) ?_
  refine ac (s_callV (M := M_Ml_finish) (pc := 8) (tz_Ml rfl) h8 q_Ml_book wd595 wd596 wd597 rfl (T := TX1) (N := 4) rfl) ?_
  refine ac (s_aldn (M := M_Ml_finish) (pc := 11) (k := 0) h11) ?_
  refine ac (s_ildn (M := M_Ml_finish) (pc := 12) (k := 1) h12) ?_
  refine ac (s_callV (M := M_Ml_finish) (pc := 13) (tz_Ml rfl) h13 q_Ml_soundAt wd330 wd331 wd332 rfl (T := TX1) (N := 4) rfl) ?_
  refine ac (s_if_ne (M := M_Ml_finish) (pc := 16) h16 (by decide)) ?_
  refine ac (s_aldn (M := M_Ml_finish) (pc := 19) (k := 0) h19) ?_
  refine ac (s_bipush (M := M_Ml_finish) (pc := 20) h20 (by decide)) ?_
  refine ac (s_callV (M := M_Ml_finish) (pc := 22) (tz_Ml rfl) h22 q_Ml_book wd595 wd596 wd597 rfl (T := TX1) (N := 4) rfl) ?_
  refine ac (s_iconst (M := M_Ml_finish) (pc := 25) h25 rfl) ?_
  refine ac (s_iret (M := M_Ml_finish) (pc := 26) h26 rfl) ?_
  exact ac_nil
theorem e0_Ml_put : decode prog_3_method_8_code 0 = .ok (.iload_n 1, 1) ∧ decode prog_3_method_8_code 1 = .ok (.ifCond .lt 29, 3) ∧ decode prog_3_method_8_code 4 = .ok (.iload_n 1, 1) ∧ decode prog_3_method_8_code 5 = .ok (.aload_n 0, 1) ∧ decode prog_3_method_8_code 6 = .ok (.getfield 18, 3) ∧ decode prog_3_method_8_code 9 = .ok (.arraylength, 1) ∧ decode prog_3_method_8_code 10 = .ok (.if_icmp .ge 20, 3) ∧ decode prog_3_method_8_code 13 = .ok (.aload_n 0, 1) ∧ decode prog_3_method_8_code 14 = .ok (.getfield 18, 3) ∧ decode prog_3_method_8_code 17 = .ok (.iload_n 1, 1) ∧ decode prog_3_method_8_code 18 = .ok (.lload_n 2, 1) ∧ decode prog_3_method_8_code 19 = .ok (.aload_n 0, 1) := by decide +kernel
theorem e1_Ml_put : decode prog_3_method_8_code 20 = .ok (.getfield 12, 3) ∧ decode prog_3_method_8_code 23 = .ok (.getfield 57, 3) ∧ decode prog_3_method_8_code 26 = .ok (.invokestatic 61, 3) ∧ decode prog_3_method_8_code 29 = .ok (.lastore, 1) ∧ decode prog_3_method_8_code 30 = .ok (.return_, 1) := by decide +kernel
def T_Ml_put : TT := [(0, o_ild 1 1), (1, o_if_lt 30 4), (4, o_ild 1 5), (5, o_ald 0 6), (6, o_get 1 1 9), (9, o_alen 10), (10, o_icmp_ge 30 13), (13, o_ald 0 14), (14, o_get 1 1 17), (17, o_ild 1 18), (18, o_lld 2 19), (19, o_ald 0 20), (20, o_get 1 0 23), (23, o_get 2 4 26), (26, o_callN M_R_numberIn 2 29), (29, o_last 30), (30, o_vret)]
theorem k_Ml_put : ∀ x ∈ T_Ml_put, SO M_Ml_put x.1 x.2 := by
  obtain ⟨h0, h1, h4, h5, h6, h9, h10, h13, h14, h17, h18, h19⟩ := e0_Ml_put
  obtain ⟨h20, h23, h26, h29, h30⟩ := e1_Ml_put
  refine ac (s_ildn (M := M_Ml_put) (pc := 0) (k := 1) h0) ?_
  refine ac (s_if_lt (M := M_Ml_put) (pc := 1) h1 (by decide)) ?_
  refine ac (s_ildn (M := M_Ml_put) (pc := 4) (k := 1) h4) ?_
  refine ac (s_aldn (M := M_Ml_put) (pc := 5) (k := 0) h5) ?_
  refine ac (s_get (M := M_Ml_put) (pc := 6) (T := TX1) (N := 4) h6 rfl in_X1 (by decide) wd102) ?_
  refine ac (s_alen (M := M_Ml_put) (pc := 9) h9) ?_
  refine ac (s_icmp_ge (M := M_Ml_put) (pc := 10) h10 (by decide)) ?_
  refine ac (s_aldn (M := M_Ml_put) (pc := 13) (k := 0) h13) ?_
  refine ac (s_get (M := M_Ml_put) (pc := 14) (T := TX1) (N := 4) h14 rfl in_X1 (by decide) wd102) ?_
  refine ac (s_ildn (M := M_Ml_put) (pc := 17) (k := 1) h17) ?_
  refine ac (s_lldn (M := M_Ml_put) (pc := 18) (k := 2) h18) ?_
  refine ac (s_aldn (M := M_Ml_put) (pc := 19) (k := 0) h19) ?_
  refine ac (s_get (M := M_Ml_put) (pc := 20) (T := TX1) (N := 4) h20 rfl in_X1 (by decide) wd99) ?_
  refine ac (s_get (M := M_Ml_put) (pc := 23) (T := TX2) (N := 6) h23 rfl in_X2 (by decide) wd79) ?_
  refine ac (s_callN (M := M_Ml_put) (pc := 26) (k := 4) (tz_Ml rfl) h26 q_R_numberIn rfl wd538) ?_
  refine ac (s_last (M := M_Ml_put) (pc := 29) h29) ?_
  refine ac (s_vret (M := M_Ml_put) (pc := 30) h30 rfl) ?_
  exact ac_nil
theorem e0_Ml_book : decode prog_3_method_5_code 0 = .ok (.iload_n 1, 1) ∧ decode prog_3_method_5_code 1 = .ok (.ifCond .lt 22, 3) ∧ decode prog_3_method_5_code 4 = .ok (.iload_n 1, 1) ∧ decode prog_3_method_5_code 5 = .ok (.aload_n 0, 1) ∧ decode prog_3_method_5_code 6 = .ok (.getfield 22, 3) ∧ decode prog_3_method_5_code 9 = .ok (.arraylength, 1) ∧ decode prog_3_method_5_code 10 = .ok (.if_icmp .ge 13, 3) ∧ decode prog_3_method_5_code 13 = .ok (.aload_n 0, 1) ∧ decode prog_3_method_5_code 14 = .ok (.getfield 22, 3) ∧ decode prog_3_method_5_code 17 = .ok (.iload_n 1, 1) ∧ decode prog_3_method_5_code 18 = .ok (.dup2, 1) ∧ decode prog_3_method_5_code 19 = .ok (.iaload, 1) := by decide +kernel
theorem e1_Ml_book : decode prog_3_method_5_code 20 = .ok (.iconst 1, 1) ∧ decode prog_3_method_5_code 21 = .ok (.iadd, 1) ∧ decode prog_3_method_5_code 22 = .ok (.iastore, 1) ∧ decode prog_3_method_5_code 23 = .ok (.return_, 1) := by decide +kernel
def T_Ml_book : TT := [(0, o_ild 1 1), (1, o_if_lt 23 4), (4, o_ild 1 5), (5, o_ald 0 6), (6, o_get 1 2 9), (9, o_alen 10), (10, o_icmp_ge 23 13), (13, o_ald 0 14), (14, o_get 1 2 17), (17, o_ild 1 18), (18, o_dup2 19), (19, o_iald 20), (20, o_push (.int (iI (1))) 21), (21, o_iadd 22), (22, o_iast 23), (23, o_vret)]
theorem k_Ml_book : ∀ x ∈ T_Ml_book, SO M_Ml_book x.1 x.2 := by
  obtain ⟨h0, h1, h4, h5, h6, h9, h10, h13, h14, h17, h18, h19⟩ := e0_Ml_book
  obtain ⟨h20, h21, h22, h23⟩ := e1_Ml_book
  refine ac (s_ildn (M := M_Ml_book) (pc := 0) (k := 1) h0) ?_
  refine ac (s_if_lt (M := M_Ml_book) (pc := 1) h1 (by decide)) ?_
  refine ac (s_ildn (M := M_Ml_book) (pc := 4) (k := 1) h4) ?_
  refine ac (s_aldn (M := M_Ml_book) (pc := 5) (k := 0) h5) ?_
  refine ac (s_get (M := M_Ml_book) (pc := 6) (T := TX1) (N := 4) h6 rfl in_X1 (by decide) wd103) ?_
  refine ac (s_alen (M := M_Ml_book) (pc := 9) h9) ?_
  refine ac (s_icmp_ge (M := M_Ml_book) (pc := 10) h10 (by decide)) ?_
  refine ac (s_aldn (M := M_Ml_book) (pc := 13) (k := 0) h13) ?_
  refine ac (s_get (M := M_Ml_book) (pc := 14) (T := TX1) (N := 4) h14 rfl in_X1 (by decide) wd103) ?_
  refine ac (s_ildn (M := M_Ml_book) (pc := 17) (k := 1) h17) ?_
  refine ac (s_dup2 (M := M_Ml_book) (pc := 18) h18) ?_
  refine ac (s_iald (M := M_Ml_book) (pc := 19) h19) ?_
  refine ac (s_iconst (M := M_Ml_book) (pc := 20) h20 rfl) ?_
  refine ac (s_iadd (M := M_Ml_book) (pc := 21) h21) ?_
  refine ac (s_iast (M := M_Ml_book) (pc := 22) h22) ?_
  refine ac (s_vret (M := M_Ml_book) (pc := 23) h23 rfl) ?_
  exact ac_nil
theorem e0_Ml_refuse : decode prog_3_method_6_code 0 = .ok (.aload_n 0, 1) ∧ decode prog_3_method_6_code 1 = .ok (.iload_n 1, 1) ∧ decode prog_3_method_6_code 2 = .ok (.invokevirtual 53, 3) ∧ decode prog_3_method_6_code 5 = .ok (.iload_n 1, 1) ∧ decode prog_3_method_6_code 6 = .ok (.ireturn, 1) := by decide +kernel
def T_Ml_refuse : TT := [(0, o_ald 0 1), (1, o_ild 1 2), (2, o_callV M_Ml_book 1 2 5), (5, o_ild 1 6), (6, o_iret)]
theorem k_Ml_refuse : ∀ x ∈ T_Ml_refuse, SO M_Ml_refuse x.1 x.2 := by
  obtain ⟨h0, h1, h2, h5, h6⟩ := e0_Ml_refuse
  refine ac (s_aldn (M := M_Ml_refuse) (pc := 0) (k := 0) h0) ?_
  refine ac (s_ildn (M := M_Ml_refuse) (pc := 1) (k := 1) h1) ?_
  refine ac (s_callV (M := M_Ml_refuse) (pc := 2) (tz_Ml rfl) h2 q_Ml_book wd595 wd596 wd597 rfl (T := TX1) (N := 4) rfl) ?_
  refine ac (s_ildn (M := M_Ml_refuse) (pc := 5) (k := 1) h5) ?_
  refine ac (s_iret (M := M_Ml_refuse) (pc := 6) h6 rfl) ?_
  exact ac_nil
theorem e0_Ml_actMend : decode prog_3_method_32_code 0 = .ok (.aload_n 0, 1) ∧ decode prog_3_method_32_code 1 = .ok (.iload_n 1, 1) ∧ decode prog_3_method_32_code 2 = .ok (.invokevirtual 113, 3) ∧ decode prog_3_method_32_code 5 = .ok (.ifCond .eq 9, 3) ∧ decode prog_3_method_32_code 8 = .ok (.aload_n 0, 1) ∧ decode prog_3_method_32_code 9 = .ok (.iconst 3, 1) ∧ decode prog_3_method_32_code 10 = .ok (.invokevirtual 142, 3) ∧ decode prog_3_method_32_code 13 = .ok (.ireturn, 1) ∧ decode prog_3_method_32_code 14 = .ok (.iconst 0, 1) ∧ decode prog_3_method_32_code 15 = .ok (.istore_n 2, 1) ∧ decode prog_3_method_32_code 16 = .ok (.iload_n 2, 1) ∧ decode prog_3_method_32_code 17 = .ok (.aload_n 0, 1) := by decide +kernel
theorem e1_Ml_actMend : decode prog_3_method_32_code 18 = .ok (.getfield 12, 3) ∧ decode prog_3_method_32_code 21 = .ok (.getfield 93, 3) ∧ decode prog_3_method_32_code 24 = .ok (.if_icmp .ge 34, 3) ∧ decode prog_3_method_32_code 27 = .ok (.aload_n 0, 1) ∧ decode prog_3_method_32_code 28 = .ok (.iload_n 1, 1) ∧ decode prog_3_method_32_code 29 = .ok (.iload_n 2, 1) ∧ decode prog_3_method_32_code 30 = .ok (.invokevirtual 117, 3) ∧ decode prog_3_method_32_code 33 = .ok (.istore_n 3, 1) ∧ decode prog_3_method_32_code 34 = .ok (.iload_n 3, 1) ∧ decode prog_3_method_32_code 35 = .ok (.iconst (-1), 1) ∧ decode prog_3_method_32_code 36 = .ok (.if_icmp .eq 16, 3) ∧ decode prog_3_method_32_code 39 = .ok (.aload_n 0, 1) := by decide +kernel
theorem e2_Ml_actMend : decode prog_3_method_32_code 40 = .ok (.iload_n 1, 1) ∧ decode prog_3_method_32_code 41 = .ok (.aload_n 0, 1) ∧ decode prog_3_method_32_code 42 = .ok (.iload_n 1, 1) ∧ decode prog_3_method_32_code 43 = .ok (.iload_n 2, 1) ∧ decode prog_3_method_32_code 44 = .ok (.iload_n 3, 1) ∧ decode prog_3_method_32_code 45 = .ok (.invokevirtual 149, 3) ∧ decode prog_3_method_32_code 48 = .ok (.invokevirtual 138, 3) ∧ decode prog_3_method_32_code 51 = .ok (.ireturn, 1) ∧ decode prog_3_method_32_code 52 = .ok (.iinc 2 1, 3) ∧ decode prog_3_method_32_code 55 = .ok (.goto (-39), 3) ∧ decode prog_3_method_32_code 58 = .ok (.aload_n 0, 1) ∧ decode prog_3_method_32_code 59 = .ok (.iconst 3, 1) := by decide +kernel
theorem e3_Ml_actMend : decode prog_3_method_32_code 60 = .ok (.invokevirtual 142, 3) ∧ decode prog_3_method_32_code 63 = .ok (.ireturn, 1) := by decide +kernel
def T_Ml_actMend : TT := [(0, o_ald 0 1), (1, o_ild 1 2), (2, o_callV M_Ml_soundAt 1 2 5), (5, o_if_eq 14 8), (8, o_ald 0 9), (9, o_push (.int (iI (3))) 10), (10, o_callV M_Ml_refuse 1 2 13), (13, o_iret), (14, o_push (.int (iI (0))) 15), (15, o_ist 2 16), (16, o_ild 2 17), (17, o_ald 0 18), (18, o_get 1 0 21), (21, o_get 2 2 24), (24, o_icmp_ge 58 27), (27, o_ald 0 28), (28, o_ild 1 29), (29, o_ild 2 30), (30, o_callV M_Ml_soundRest 1 3 33), (33, o_ist 3 34), (34, o_ild 3 35), (35, o_push (.int (iI (-1))) 36), (36, o_icmp_eq 52 39), (39, o_ald 0 40), (40, o_ild 1 41), (41, o_ald 0 42), (42, o_ild 1 43), (43, o_ild 2 44), (44, o_ild 3 45), (45, o_callV M_Ml_numberWithRest 1 4 48), (48, o_callV M_Ml_finish 1 3 51), (51, o_iret), (52, o_iinc 2 (iI (1)) 55), (55, o_goto 16), (58, o_ald 0 59), (59, o_push (.int (iI (3))) 60), (60, o_callV M_Ml_refuse 1 2 63), (63, o_iret)]
theorem k_Ml_actMend : ∀ x ∈ T_Ml_actMend, SO M_Ml_actMend x.1 x.2 := by
  obtain ⟨h0, h1, h2, h5, h8, h9, h10, h13, h14, h15, h16, h17⟩ := e0_Ml_actMend
  obtain ⟨h18, h21, h24, h27, h28, h29, h30, h33, h34, h35, h36, h39⟩ := e1_Ml_actMend
  obtain ⟨h40, h41, h42, h43, h44, h45, h48, h51, h52, h55, h58, h59⟩ := e2_Ml_actMend
  obtain ⟨h60, h63⟩ := e3_Ml_actMend
  refine ac (s_aldn (M := M_Ml_actMend) (pc := 0) (k := 0) h0) ?_
  refine ac (s_ildn (M := M_Ml_actMend) (pc := 1) (k := 1) h1) ?_
  refine ac (s_callV (M := M_Ml_actMend) (pc := 2) (tz_Ml rfl) h2 q_Ml_soundAt wd330 wd331 wd332 rfl (T := TX1) (N := 4) rfl) ?_
  refine ac (s_if_eq (M := M_Ml_actMend) (pc := 5) h5 (by decide)) ?_
  refine ac (s_aldn (M := M_Ml_actMend) (pc := 8) (k := 0) h8) ?_
  refine ac (s_iconst (M := M_Ml_actMend) (pc := 9) h9 rfl) ?_
  refine ac (s_callV (M := M_Ml_actMend) (pc := 10) (tz_Ml rfl) h10 q_Ml_refuse wd599 wd600 wd601 rfl (T := TX1) (N := 4) rfl) ?_
  refine ac (s_iret (M := M_Ml_actMend) (pc := 13) h13 rfl) ?_
  refine ac (s_iconst (M := M_Ml_actMend) (pc := 14) h14 rfl) ?_
  refine ac (s_istn (M := M_Ml_actMend) (pc := 15) (k := 2) h15 (by decide)) ?_
  refine ac (s_ildn (M := M_Ml_actMend) (pc := 16) (k := 2) h16) ?_
  refine ac (s_aldn (M := M_Ml_actMend) (pc := 17) (k := 0) h17) ?_
  refine ac (s_get (M := M_Ml_actMend) (pc := 18) (T := TX1) (N := 4) h18 rfl in_X1 (by decide) wd99) ?_
  refine ac (s_get (M := M_Ml_actMend) (pc := 21) (T := TX2) (N := 6) h21 rfl in_X2 (by decide) wd75) ?_
  refine ac (s_icmp_ge (M := M_Ml_actMend) (pc := 24) h24 (by decide)) ?_
  refine ac (s_aldn (M := M_Ml_actMend) (pc := 27) (k := 0) h27) ?_
  refine ac (s_ildn (M := M_Ml_actMend) (pc := 28) (k := 1) h28) ?_
  refine ac (s_ildn (M := M_Ml_actMend) (pc := 29) (k := 2) h29) ?_
  refine ac (s_callV (M := M_Ml_actMend) (pc := 30) (tz_Ml rfl) h30 q_Ml_soundRest wd533 wd534 wd535 rfl (T := TX1) (N := 4) rfl) ?_
  refine ac (s_istn (M := M_Ml_actMend) (pc := 33) (k := 3) h33 (by decide)) ?_
  refine ac (s_ildn (M := M_Ml_actMend) (pc := 34) (k := 3) h34) ?_
  refine ac (s_iconst (M := M_Ml_actMend) (pc := 35) h35 rfl) ?_
  refine ac (s_icmp_eq (M := M_Ml_actMend) (pc := 36) h36 (by decide)) ?_
  refine ac (s_aldn (M := M_Ml_actMend) (pc := 39) (k := 0) h39) ?_
  refine ac (s_ildn (M := M_Ml_actMend) (pc := 40) (k := 1) h40) ?_
  refine ac (s_aldn (M := M_Ml_actMend) (pc := 41) (k := 0) h41) ?_
  refine ac (s_ildn (M := M_Ml_actMend) (pc := 42) (k := 1) h42) ?_
  refine ac (s_ildn (M := M_Ml_actMend) (pc := 43) (k := 2) h43) ?_
  refine ac (s_ildn (M := M_Ml_actMend) (pc := 44) (k := 3) h44) ?_
  refine ac (s_callV (M := M_Ml_actMend) (pc := 45) (tz_Ml rfl) h45 q_Ml_numberWithRest wd628 wd550 wd551 rfl (T := TX1) (N := 4) rfl) ?_
  refine ac (s_callV (M := M_Ml_actMend) (pc := 48) (tz_Ml rfl) h48 q_Ml_finish wd587 wd588 wd589 rfl (T := TX1) (N := 4) rfl) ?_
  refine ac (s_iret (M := M_Ml_actMend) (pc := 51) h51 rfl) ?_
  refine ac (s_iinc (M := M_Ml_actMend) (pc := 52) h52 rfl (by decide)) ?_
  refine ac (s_goto (M := M_Ml_actMend) (pc := 55) h55 (by decide)) ?_
  refine ac (s_aldn (M := M_Ml_actMend) (pc := 58) (k := 0) h58) ?_
  refine ac (s_iconst (M := M_Ml_actMend) (pc := 59) h59 rfl) ?_
  refine ac (s_callV (M := M_Ml_actMend) (pc := 60) (tz_Ml rfl) h60 q_Ml_refuse wd599 wd600 wd601 rfl (T := TX1) (N := 4) rfl) ?_
  refine ac (s_iret (M := M_Ml_actMend) (pc := 63) h63 rfl) ?_
  exact ac_nil
theorem e0_Ml_clear : decode prog_3_method_3_code 0 = .ok (.aload_n 0, 1) ∧ decode prog_3_method_3_code 1 = .ok (.getfield 12, 3) ∧ decode prog_3_method_3_code 4 = .ok (.invokevirtual 41, 3) ∧ decode prog_3_method_3_code 7 = .ok (.aload_n 0, 1) ∧ decode prog_3_method_3_code 8 = .ok (.getfield 18, 3) ∧ decode prog_3_method_3_code 11 = .ok (.lconst 0, 1) ∧ decode prog_3_method_3_code 12 = .ok (.invokestatic 44, 3) ∧ decode prog_3_method_3_code 15 = .ok (.aload_n 0, 1) ∧ decode prog_3_method_3_code 16 = .ok (.getfield 22, 3) ∧ decode prog_3_method_3_code 19 = .ok (.iconst 0, 1) ∧ decode prog_3_method_3_code 20 = .ok (.invokestatic 50, 3) ∧ decode prog_3_method_3_code 23 = .ok (.aload_n 0, 1) := by decide +kernel
theorem e1_Ml_clear : decode prog_3_method_3_code 24 = .ok (.iconst 0, 1) ∧ decode prog_3_method_3_code 25 = .ok (.putfield 37, 3) ∧ decode prog_3_method_3_code 28 = .ok (.return_, 1) := by decide +kernel
def T_Ml_clear : TT := [(0, o_ald 0 1), (1, o_get 1 0 4), (4, o_callV M_Mo_clear 2 1 7), (7, o_ald 0 8), (8, o_get 1 1 11), (11, o_push (.long (lI 0)) 12), (12, o_call M_jArr_fill_AJJ 2 15), (15, o_ald 0 16), (16, o_get 1 2 19), (19, o_push (.int (iI (0))) 20), (20, o_call M_jArr_fill_AII 2 23), (23, o_ald 0 24), (24, o_push (.int (iI (0))) 25), (25, o_puti 1 3 28), (28, o_vret)]
theorem k_Ml_clear : ∀ x ∈ T_Ml_clear, SO M_Ml_clear x.1 x.2 := by
  obtain ⟨h0, h1, h4, h7, h8, h11, h12, h15, h16, h19, h20, h23⟩ := e0_Ml_clear
  obtain ⟨h24, h25, h28⟩ := e1_Ml_clear
  refine ac (s_aldn (M := M_Ml_clear) (pc := 0) (k := 0) h0) ?_
  refine ac (s_get (M := M_Ml_clear) (pc := 1) (T := TX1) (N := 4) h1 rfl in_X1 (by decide) wd99) ?_
  refine ac (s_callV (M := M_Ml_clear) (pc := 4) (tz_Ml rfl) h4 q_Mo_clear wd844 wd845 wd846 rfl (T := TX2) (N := 6) rfl) ?_
  refine ac (s_aldn (M := M_Ml_clear) (pc := 7) (k := 0) h7) ?_
  refine ac (s_get (M := M_Ml_clear) (pc := 8) (T := TX1) (N := 4) h8 rfl in_X1 (by decide) wd102) ?_
  refine ac (s_lconst (M := M_Ml_clear) (pc := 11) h11 (by decide)) ?_
  refine ac (s_callS (M := M_Ml_clear) (pc := 12) (tz_Ml rfl) h12 q_jArr_fill_AJJ wd848 wd849) ?_
  refine ac (s_aldn (M := M_Ml_clear) (pc := 15) (k := 0) h15) ?_
  refine ac (s_get (M := M_Ml_clear) (pc := 16) (T := TX1) (N := 4) h16 rfl in_X1 (by decide) wd103) ?_
  refine ac (s_iconst (M := M_Ml_clear) (pc := 19) h19 rfl) ?_
  refine ac (s_callS (M := M_Ml_clear) (pc := 20) (tz_Ml rfl) h20 q_jArr_fill_AII wd851 wd852) ?_
  refine ac (s_aldn (M := M_Ml_clear) (pc := 23) (k := 0) h23) ?_
  refine ac (s_iconst (M := M_Ml_clear) (pc := 24) h24 rfl) ?_
  refine ac (s_puti (M := M_Ml_clear) (pc := 25) (T := TX1) (N := 4) (ty0 := tyX1) h25 ⟨rfl, in_X1, by decide, wd104, tyX1_ok, nmX1, (Or.inl rfl)⟩ rfl) ?_
  refine ac (s_vret (M := M_Ml_clear) (pc := 28) h28 rfl) ?_
  exact ac_nil
theorem e0_Ml_reasonOf : decode prog_3_method_27_code 0 = .ok (.iload_n 1, 1) ∧ decode prog_3_method_27_code 1 = .ok (.invokestatic 128, 3) ∧ decode prog_3_method_27_code 4 = .ok (.ifCond .eq 12, 3) ∧ decode prog_3_method_27_code 7 = .ok (.lload 4, 2) ∧ decode prog_3_method_27_code 9 = .ok (.lconst 0, 1) ∧ decode prog_3_method_27_code 10 = .ok (.lcmp, 1) ∧ decode prog_3_method_27_code 11 = .ok (.ifCond .ne 5, 3) ∧ decode prog_3_method_27_code 14 = .ok (.iconst 1, 1) ∧ decode prog_3_method_27_code 15 = .ok (.ireturn, 1) ∧ decode prog_3_method_27_code 16 = .ok (.aload_n 0, 1) ∧ decode prog_3_method_27_code 17 = .ok (.iload_n 1, 1) ∧ decode prog_3_method_27_code 18 = .ok (.lload_n 2, 1) := by decide +kernel
theorem e1_Ml_reasonOf : decode prog_3_method_27_code 19 = .ok (.lload 4, 2) ∧ decode prog_3_method_27_code 21 = .ok (.invokestatic 131, 3) ∧ decode prog_3_method_27_code 24 = .ok (.invokevirtual 135, 3) ∧ decode prog_3_method_27_code 27 = .ok (.ifCond .eq 7, 3) ∧ decode prog_3_method_27_code 30 = .ok (.iconst 2, 1) ∧ decode prog_3_method_27_code 31 = .ok (.goto 4, 3) ∧ decode prog_3_method_27_code 34 = .ok (.iconst 0, 1) ∧ decode prog_3_method_27_code 35 = .ok (.ireturn, 1) := by decide +kernel
def T_Ml_reasonOf : TT := [(0, o_ild 1 1), (1, o_callN M_R_divides 1 4), (4, o_if_eq 16 7), (7, o_lld 4 9), (9, o_push (.long (lI 0)) 10), (10, o_lc_ne 16 14), (14, o_push (.int (iI (1))) 15), (15, o_iret), (16, o_ald 0 17), (17, o_ild 1 18), (18, o_lld 2 19), (19, o_lld 4 21), (21, o_callN M_R_exactOf 3 24), (24, o_callV M_Ml_refusesResult 1 2 27), (27, o_if_eq 34 30), (30, o_push (.int (iI (2))) 31), (31, o_goto 35), (34, o_push (.int (iI (0))) 35), (35, o_iret)]
theorem k_Ml_reasonOf : ∀ x ∈ T_Ml_reasonOf, SO M_Ml_reasonOf x.1 x.2 := by
  obtain ⟨h0, h1, h4, h7, h9, h10, h11, h14, h15, h16, h17, h18⟩ := e0_Ml_reasonOf
  obtain ⟨h19, h21, h24, h27, h30, h31, h34, h35⟩ := e1_Ml_reasonOf
  refine ac (s_ildn (M := M_Ml_reasonOf) (pc := 0) (k := 1) h0) ?_
  refine ac (s_callN (M := M_Ml_reasonOf) (pc := 1) (k := 10) (tz_Ml rfl) h1 q_R_divides rfl wd1177) ?_
  refine ac (s_if_eq (M := M_Ml_reasonOf) (pc := 4) h4 (by decide)) ?_
  refine ac (s_lld (M := M_Ml_reasonOf) (pc := 7) h7) ?_
  refine ac (s_lconst (M := M_Ml_reasonOf) (pc := 9) h9 (by decide)) ?_
  refine ac (s_lc_ne (M := M_Ml_reasonOf) (pc := 10) h10 h11 (by decide)) ?_
  refine ac (s_iconst (M := M_Ml_reasonOf) (pc := 14) h14 rfl) ?_
  refine ac (s_iret (M := M_Ml_reasonOf) (pc := 15) h15 rfl) ?_
  refine ac (s_aldn (M := M_Ml_reasonOf) (pc := 16) (k := 0) h16) ?_
  refine ac (s_ildn (M := M_Ml_reasonOf) (pc := 17) (k := 1) h17) ?_
  refine ac (s_lldn (M := M_Ml_reasonOf) (pc := 18) (k := 2) h18) ?_
  refine ac (s_lld (M := M_Ml_reasonOf) (pc := 19) h19) ?_
  refine ac (s_callN (M := M_Ml_reasonOf) (pc := 21) (k := 11) (tz_Ml rfl) h21 q_R_exactOf rfl wd1180) ?_
  refine ac (s_callV (M := M_Ml_reasonOf) (pc := 24) (tz_Ml rfl) h24 q_Ml_refusesResult wd1182 wd1184 wd19 rfl (T := TX1) (N := 4) rfl) ?_
  refine ac (s_if_eq (M := M_Ml_reasonOf) (pc := 27) h27 (by decide)) ?_
  refine ac (s_iconst (M := M_Ml_reasonOf) (pc := 30) h30 rfl) ?_
  refine ac (s_goto (M := M_Ml_reasonOf) (pc := 31) h31 (by decide)) ?_
  refine ac (s_iconst (M := M_Ml_reasonOf) (pc := 34) h34 rfl) ?_
  refine ac (s_iret (M := M_Ml_reasonOf) (pc := 35) h35 rfl) ?_
  exact ac_nil
theorem e0_Ml_refusesResult : decode prog_3_method_26_code 0 = .ok (.aload_n 0, 1) ∧ decode prog_3_method_26_code 1 = .ok (.getfield 37, 3) ∧ decode prog_3_method_26_code 4 = .ok (.iconst 1, 1) ∧ decode prog_3_method_26_code 5 = .ok (.if_icmp .ne 28, 3) ∧ decode prog_3_method_26_code 8 = .ok (.aload_n 0, 1) ∧ decode prog_3_method_26_code 9 = .ok (.getfield 12, 3) ∧ decode prog_3_method_26_code 12 = .ok (.lload_n 1, 1) ∧ decode prog_3_method_26_code 13 = .ok (.aload_n 0, 1) ∧ decode prog_3_method_26_code 14 = .ok (.getfield 12, 3) ∧ decode prog_3_method_26_code 17 = .ok (.getfield 57, 3) ∧ decode prog_3_method_26_code 20 = .ok (.invokestatic 61, 3) ∧ decode prog_3_method_26_code 23 = .ok (.invokevirtual 80, 3) := by decide +kernel
theorem e1_Ml_refusesResult : decode prog_3_method_26_code 26 = .ok (.ifCond .ne 7, 3) ∧ decode prog_3_method_26_code 29 = .ok (.iconst 1, 1) ∧ decode prog_3_method_26_code 30 = .ok (.goto 4, 3) ∧ decode prog_3_method_26_code 33 = .ok (.iconst 0, 1) ∧ decode prog_3_method_26_code 34 = .ok (.ireturn, 1) := by decide +kernel
def T_Ml_refusesResult : TT := [(0, o_ald 0 1), (1, o_get 1 3 4), (4, o_push (.int (iI (1))) 5), (5, o_icmp_ne 33 8), (8, o_ald 0 9), (9, o_get 1 0 12), (12, o_lld 1 13), (13, o_ald 0 14), (14, o_get 1 0 17), (17, o_get 2 4 20), (20, o_callN M_R_numberIn 2 23), (23, o_callV M_Mo_fits 2 2 26), (26, o_if_ne 33 29), (29, o_push (.int (iI (1))) 30), (30, o_goto 34), (33, o_push (.int (iI (0))) 34), (34, o_zret)]
theorem k_Ml_refusesResult : ∀ x ∈ T_Ml_refusesResult, SO M_Ml_refusesResult x.1 x.2 := by
  obtain ⟨h0, h1, h4, h5, h8, h9, h12, h13, h14, h17, h20, h23⟩ := e0_Ml_refusesResult
  obtain ⟨h26, h29, h30, h33, h34⟩ := e1_Ml_refusesResult
  refine ac (s_aldn (M := M_Ml_refusesResult) (pc := 0) (k := 0) h0) ?_
  refine ac (s_get (M := M_Ml_refusesResult) (pc := 1) (T := TX1) (N := 4) h1 rfl in_X1 (by decide) wd104) ?_
  refine ac (s_iconst (M := M_Ml_refusesResult) (pc := 4) h4 rfl) ?_
  refine ac (s_icmp_ne (M := M_Ml_refusesResult) (pc := 5) h5 (by decide)) ?_
  refine ac (s_aldn (M := M_Ml_refusesResult) (pc := 8) (k := 0) h8) ?_
  refine ac (s_get (M := M_Ml_refusesResult) (pc := 9) (T := TX1) (N := 4) h9 rfl in_X1 (by decide) wd99) ?_
  refine ac (s_lldn (M := M_Ml_refusesResult) (pc := 12) (k := 1) h12) ?_
  refine ac (s_aldn (M := M_Ml_refusesResult) (pc := 13) (k := 0) h13) ?_
  refine ac (s_get (M := M_Ml_refusesResult) (pc := 14) (T := TX1) (N := 4) h14 rfl in_X1 (by decide) wd99) ?_
  refine ac (s_get (M := M_Ml_refusesResult) (pc := 17) (T := TX2) (N := 6) h17 rfl in_X2 (by decide) wd79) ?_
  refine ac (s_callN (M := M_Ml_refusesResult) (pc := 20) (k := 4) (tz_Ml rfl) h20 q_R_numberIn rfl wd538) ?_
  refine ac (s_callV (M := M_Ml_refusesResult) (pc := 23) (tz_Ml rfl) h23 q_Mo_fits wd338 wd339 wd340 rfl (T := TX2) (N := 6) rfl) ?_
  refine ac (s_if_ne (M := M_Ml_refusesResult) (pc := 26) h26 (by decide)) ?_
  refine ac (s_iconst (M := M_Ml_refusesResult) (pc := 29) h29 rfl) ?_
  refine ac (s_goto (M := M_Ml_refusesResult) (pc := 30) h30 (by decide)) ?_
  refine ac (s_iconst (M := M_Ml_refusesResult) (pc := 33) h33 rfl) ?_
  refine ac (s_zret (M := M_Ml_refusesResult) (pc := 34) h34 rfl) ?_
  exact ac_nil
theorem e0_Ml_actOperate : decode prog_3_method_30_code 0 = .ok (.aload_n 0, 1) ∧ decode prog_3_method_30_code 1 = .ok (.iload_n 3, 1) ∧ decode prog_3_method_30_code 2 = .ok (.invokevirtual 65, 3) ∧ decode prog_3_method_30_code 5 = .ok (.lstore 5, 2) ∧ decode prog_3_method_30_code 7 = .ok (.aload_n 0, 1) ∧ decode prog_3_method_30_code 8 = .ok (.iload 4, 2) ∧ decode prog_3_method_30_code 10 = .ok (.invokevirtual 65, 3) ∧ decode prog_3_method_30_code 13 = .ok (.lstore 7, 2) ∧ decode prog_3_method_30_code 15 = .ok (.aload_n 0, 1) ∧ decode prog_3_method_30_code 16 = .ok (.iload_n 1, 1) ∧ decode prog_3_method_30_code 17 = .ok (.lload 5, 2) ∧ decode prog_3_method_30_code 19 = .ok (.lload 7, 2) := by decide +kernel
theorem e1_Ml_actOperate : decode prog_3_method_30_code 21 = .ok (.invokevirtual 145, 3) ∧ decode prog_3_method_30_code 24 = .ok (.istore 9, 2) ∧ decode prog_3_method_30_code 26 = .ok (.iload 9, 2) ∧ decode prog_3_method_30_code 28 = .ok (.ifCond .ne 19, 3) ∧ decode prog_3_method_30_code 31 = .ok (.aload_n 0, 1) ∧ decode prog_3_method_30_code 32 = .ok (.iload_n 2, 1) ∧ decode prog_3_method_30_code 33 = .ok (.iload_n 1, 1) ∧ decode prog_3_method_30_code 34 = .ok (.lload 5, 2) ∧ decode prog_3_method_30_code 36 = .ok (.lload 7, 2) ∧ decode prog_3_method_30_code 38 = .ok (.invokestatic 131, 3) ∧ decode prog_3_method_30_code 41 = .ok (.invokevirtual 138, 3) ∧ decode prog_3_method_30_code 44 = .ok (.goto 9, 3) := by decide +kernel
theorem e2_Ml_actOperate : decode prog_3_method_30_code 47 = .ok (.aload_n 0, 1) ∧ decode prog_3_method_30_code 48 = .ok (.iload 9, 2) ∧ decode prog_3_method_30_code 50 = .ok (.invokevirtual 142, 3) ∧ decode prog_3_method_30_code 53 = .ok (.ireturn, 1) := by decide +kernel
def T_Ml_actOperate : TT := [(0, o_ald 0 1), (1, o_ild 3 2), (2, o_callV M_Ml_numberAt 1 2 5), (5, o_lst 5 7), (7, o_ald 0 8), (8, o_ild 4 10), (10, o_callV M_Ml_numberAt 1 2 13), (13, o_lst 7 15), (15, o_ald 0 16), (16, o_ild 1 17), (17, o_lld 5 19), (19, o_lld 7 21), (21, o_callV M_Ml_reasonOf 1 4 24), (24, o_ist 9 26), (26, o_ild 9 28), (28, o_if_ne 47 31), (31, o_ald 0 32), (32, o_ild 2 33), (33, o_ild 1 34), (34, o_lld 5 36), (36, o_lld 7 38), (38, o_callN M_R_exactOf 3 41), (41, o_callV M_Ml_finish 1 3 44), (44, o_goto 53), (47, o_ald 0 48), (48, o_ild 9 50), (50, o_callV M_Ml_refuse 1 2 53), (53, o_iret)]
theorem k_Ml_actOperate : ∀ x ∈ T_Ml_actOperate, SO M_Ml_actOperate x.1 x.2 := by
  obtain ⟨h0, h1, h2, h5, h7, h8, h10, h13, h15, h16, h17, h19⟩ := e0_Ml_actOperate
  obtain ⟨h21, h24, h26, h28, h31, h32, h33, h34, h36, h38, h41, h44⟩ := e1_Ml_actOperate
  obtain ⟨h47, h48, h50, h53⟩ := e2_Ml_actOperate
  refine ac (s_aldn (M := M_Ml_actOperate) (pc := 0) (k := 0) h0) ?_
  refine ac (s_ildn (M := M_Ml_actOperate) (pc := 1) (k := 3) h1) ?_
  refine ac (s_callV (M := M_Ml_actOperate) (pc := 2) (tz_Ml rfl) h2 q_Ml_numberAt wd334 wd335 wd336 rfl (T := TX1) (N := 4) rfl) ?_
  refine ac (s_lst (M := M_Ml_actOperate) (pc := 5) h5 (by decide)) ?_
  refine ac (s_aldn (M := M_Ml_actOperate) (pc := 7) (k := 0) h7) ?_
  refine ac (s_ild (M := M_Ml_actOperate) (pc := 8) h8) ?_
  refine ac (s_callV (M := M_Ml_actOperate) (pc := 10) (tz_Ml rfl) h10 q_Ml_numberAt wd334 wd335 wd336 rfl (T := TX1) (N := 4) rfl) ?_
  refine ac (s_lst (M := M_Ml_actOperate) (pc := 13) h13 (by decide)) ?_
  refine ac (s_aldn (M := M_Ml_actOperate) (pc := 15) (k := 0) h15) ?_
  refine ac (s_ildn (M := M_Ml_actOperate) (pc := 16) (k := 1) h16) ?_
  refine ac (s_lld (M := M_Ml_actOperate) (pc := 17) h17) ?_
  refine ac (s_lld (M := M_Ml_actOperate) (pc := 19) h19) ?_
  refine ac (s_callV (M := M_Ml_actOperate) (pc := 21) (tz_Ml rfl) h21 q_Ml_reasonOf wd1223 wd1173 wd1174 rfl (T := TX1) (N := 4) rfl) ?_
  refine ac (s_ist (M := M_Ml_actOperate) (pc := 24) h24 (by decide)) ?_
  refine ac (s_ild (M := M_Ml_actOperate) (pc := 26) h26) ?_
  refine ac (s_if_ne (M := M_Ml_actOperate) (pc := 28) h28 (by decide)) ?_
  refine ac (s_aldn (M := M_Ml_actOperate) (pc := 31) (k := 0) h31) ?_
  refine ac (s_ildn (M := M_Ml_actOperate) (pc := 32) (k := 2) h32) ?_
  refine ac (s_ildn (M := M_Ml_actOperate) (pc := 33) (k := 1) h33) ?_
  refine ac (s_lld (M := M_Ml_actOperate) (pc := 34) h34) ?_
  refine ac (s_lld (M := M_Ml_actOperate) (pc := 36) h36) ?_
  refine ac (s_callN (M := M_Ml_actOperate) (pc := 38) (k := 11) (tz_Ml rfl) h38 q_R_exactOf rfl wd1180) ?_
  refine ac (s_callV (M := M_Ml_actOperate) (pc := 41) (tz_Ml rfl) h41 q_Ml_finish wd587 wd588 wd589 rfl (T := TX1) (N := 4) rfl) ?_
  refine ac (s_goto (M := M_Ml_actOperate) (pc := 44) h44 (by decide)) ?_
  refine ac (s_aldn (M := M_Ml_actOperate) (pc := 47) (k := 0) h47) ?_
  refine ac (s_ild (M := M_Ml_actOperate) (pc := 48) h48) ?_
  refine ac (s_callV (M := M_Ml_actOperate) (pc := 50) (tz_Ml rfl) h50 q_Ml_refuse wd599 wd600 wd601 rfl (T := TX1) (N := 4) rfl) ?_
  refine ac (s_iret (M := M_Ml_actOperate) (pc := 53) h53 rfl) ?_
  exact ac_nil
theorem e0_Ml_actScale : decode prog_3_method_31_code 0 = .ok (.aload_n 0, 1) ∧ decode prog_3_method_31_code 1 = .ok (.iload_n 1, 1) ∧ decode prog_3_method_31_code 2 = .ok (.invokevirtual 65, 3) ∧ decode prog_3_method_31_code 5 = .ok (.aload_n 0, 1) ∧ decode prog_3_method_31_code 6 = .ok (.getfield 12, 3) ∧ decode prog_3_method_31_code 9 = .ok (.iload_n 2, 1) ∧ decode prog_3_method_31_code 10 = .ok (.invokevirtual 76, 3) ∧ decode prog_3_method_31_code 13 = .ok (.i2l, 1) ∧ decode prog_3_method_31_code 14 = .ok (.invokestatic 96, 3) ∧ decode prog_3_method_31_code 17 = .ok (.lstore_n 3, 1) ∧ decode prog_3_method_31_code 18 = .ok (.aload_n 0, 1) ∧ decode prog_3_method_31_code 19 = .ok (.lload_n 3, 1) := by decide +kernel
theorem e1_Ml_actScale : decode prog_3_method_31_code 20 = .ok (.invokevirtual 135, 3) ∧ decode prog_3_method_31_code 23 = .ok (.ifCond .eq 11, 3) ∧ decode prog_3_method_31_code 26 = .ok (.aload_n 0, 1) ∧ decode prog_3_method_31_code 27 = .ok (.iconst 2, 1) ∧ decode prog_3_method_31_code 28 = .ok (.invokevirtual 142, 3) ∧ decode prog_3_method_31_code 31 = .ok (.goto 9, 3) ∧ decode prog_3_method_31_code 34 = .ok (.aload_n 0, 1) ∧ decode prog_3_method_31_code 35 = .ok (.iload_n 1, 1) ∧ decode prog_3_method_31_code 36 = .ok (.lload_n 3, 1) ∧ decode prog_3_method_31_code 37 = .ok (.invokevirtual 138, 3) ∧ decode prog_3_method_31_code 40 = .ok (.ireturn, 1) := by decide +kernel
def T_Ml_actScale : TT := [(0, o_ald 0 1), (1, o_ild 1 2), (2, o_callV M_Ml_numberAt 1 2 5), (5, o_ald 0 6), (6, o_get 1 0 9), (9, o_ild 2 10), (10, o_callV M_Mo_at 2 2 13), (13, o_i2l 14), (14, o_callN M_R_floorQuotient 2 17), (17, o_lst 3 18), (18, o_ald 0 19), (19, o_lld 3 20), (20, o_callV M_Ml_refusesResult 1 2 23), (23, o_if_eq 34 26), (26, o_ald 0 27), (27, o_push (.int (iI (2))) 28), (28, o_callV M_Ml_refuse 1 2 31), (31, o_goto 40), (34, o_ald 0 35), (35, o_ild 1 36), (36, o_lld 3 37), (37, o_callV M_Ml_finish 1 3 40), (40, o_iret)]
theorem k_Ml_actScale : ∀ x ∈ T_Ml_actScale, SO M_Ml_actScale x.1 x.2 := by
  obtain ⟨h0, h1, h2, h5, h6, h9, h10, h13, h14, h17, h18, h19⟩ := e0_Ml_actScale
  obtain ⟨h20, h23, h26, h27, h28, h31, h34, h35, h36, h37, h40⟩ := e1_Ml_actScale
  refine ac (s_aldn (M := M_Ml_actScale) (pc := 0) (k := 0) h0) ?_
  refine ac (s_ildn (M := M_Ml_actScale) (pc := 1) (k := 1) h1) ?_
  refine ac (s_callV (M := M_Ml_actScale) (pc := 2) (tz_Ml rfl) h2 q_Ml_numberAt wd334 wd335 wd336 rfl (T := TX1) (N := 4) rfl) ?_
  refine ac (s_aldn (M := M_Ml_actScale) (pc := 5) (k := 0) h5) ?_
  refine ac (s_get (M := M_Ml_actScale) (pc := 6) (T := TX1) (N := 4) h6 rfl in_X1 (by decide) wd99) ?_
  refine ac (s_ildn (M := M_Ml_actScale) (pc := 9) (k := 2) h9) ?_
  refine ac (s_callV (M := M_Ml_actScale) (pc := 10) (tz_Ml rfl) h10 q_Mo_at wd467 wd263 wd264 rfl (T := TX2) (N := 6) rfl) ?_
  refine ac (s_i2l (M := M_Ml_actScale) (pc := 13) h13) ?_
  refine ac (s_callN (M := M_Ml_actScale) (pc := 14) (k := 3) (tz_Ml rfl) h14 q_R_floorQuotient rfl wd267) ?_
  refine ac (s_lstn (M := M_Ml_actScale) (pc := 17) (k := 3) h17 (by decide)) ?_
  refine ac (s_aldn (M := M_Ml_actScale) (pc := 18) (k := 0) h18) ?_
  refine ac (s_lldn (M := M_Ml_actScale) (pc := 19) (k := 3) h19) ?_
  refine ac (s_callV (M := M_Ml_actScale) (pc := 20) (tz_Ml rfl) h20 q_Ml_refusesResult wd1182 wd1184 wd19 rfl (T := TX1) (N := 4) rfl) ?_
  refine ac (s_if_eq (M := M_Ml_actScale) (pc := 23) h23 (by decide)) ?_
  refine ac (s_aldn (M := M_Ml_actScale) (pc := 26) (k := 0) h26) ?_
  refine ac (s_iconst (M := M_Ml_actScale) (pc := 27) h27 rfl) ?_
  refine ac (s_callV (M := M_Ml_actScale) (pc := 28) (tz_Ml rfl) h28 q_Ml_refuse wd599 wd600 wd601 rfl (T := TX1) (N := 4) rfl) ?_
  refine ac (s_goto (M := M_Ml_actScale) (pc := 31) h31 (by decide)) ?_
  refine ac (s_aldn (M := M_Ml_actScale) (pc := 34) (k := 0) h34) ?_
  refine ac (s_ildn (M := M_Ml_actScale) (pc := 35) (k := 1) h35) ?_
  refine ac (s_lldn (M := M_Ml_actScale) (pc := 36) (k := 3) h36) ?_
  refine ac (s_callV (M := M_Ml_actScale) (pc := 37) (tz_Ml rfl) h37 q_Ml_finish wd587 wd588 wd589 rfl (T := TX1) (N := 4) rfl) ?_
  refine ac (s_iret (M := M_Ml_actScale) (pc := 40) h40 rfl) ?_
  exact ac_nil
theorem e0_Ml_actGrow : decode prog_3_method_33_code 0 = .ok (.aload_n 0, 1) ∧ decode prog_3_method_33_code 1 = .ok (.getfield 12, 3) ∧ decode prog_3_method_33_code 4 = .ok (.iload_n 1, 1) ∧ decode prog_3_method_33_code 5 = .ok (.invokevirtual 153, 3) ∧ decode prog_3_method_33_code 8 = .ok (.ifCond .ne 9, 3) ∧ decode prog_3_method_33_code 11 = .ok (.aload_n 0, 1) ∧ decode prog_3_method_33_code 12 = .ok (.iconst 4, 1) ∧ decode prog_3_method_33_code 13 = .ok (.invokevirtual 142, 3) ∧ decode prog_3_method_33_code 16 = .ok (.ireturn, 1) ∧ decode prog_3_method_33_code 17 = .ok (.aload_n 0, 1) ∧ decode prog_3_method_33_code 18 = .ok (.getfield 12, 3) ∧ decode prog_3_method_33_code 21 = .ok (.iload_n 1, 1) := by decide +kernel
theorem e1_Ml_actGrow : decode prog_3_method_33_code 22 = .ok (.invokevirtual 156, 3) ∧ decode prog_3_method_33_code 25 = .ok (.aload_n 0, 1) ∧ decode prog_3_method_33_code 26 = .ok (.iconst 0, 1) ∧ decode prog_3_method_33_code 27 = .ok (.invokevirtual 53, 3) ∧ decode prog_3_method_33_code 30 = .ok (.iconst 0, 1) ∧ decode prog_3_method_33_code 31 = .ok (.ireturn, 1) := by decide +kernel
def T_Ml_actGrow : TT := [(0, o_ald 0 1), (1, o_get 1 0 4), (4, o_ild 1 5), (5, o_callV M_Mo_canTake 2 2 8), (8, o_if_ne 17 11), (11, o_ald 0 12), (12, o_push (.int (iI (4))) 13), (13, o_callV M_Ml_refuse 1 2 16), (16, o_iret), (17, o_ald 0 18), (18, o_get 1 0 21), (21, o_ild 1 22), (22, o_callV M_Mo_insert 2 2 25), (25, o_ald 0 26), (26, o_push (.int (iI (0))) 27), (27, o_callV M_Ml_book 1 2 30), (30, o_push (.int (iI (0))) 31), (31, o_iret)]
theorem k_Ml_actGrow : ∀ x ∈ T_Ml_actGrow, SO M_Ml_actGrow x.1 x.2 := by
  obtain ⟨h0, h1, h4, h5, h8, h11, h12, h13, h16, h17, h18, h21⟩ := e0_Ml_actGrow
  obtain ⟨h22, h25, h26, h27, h30, h31⟩ := e1_Ml_actGrow
  refine ac (s_aldn (M := M_Ml_actGrow) (pc := 0) (k := 0) h0) ?_
  refine ac (s_get (M := M_Ml_actGrow) (pc := 1) (T := TX1) (N := 4) h1 rfl in_X1 (by decide) wd99) ?_
  refine ac (s_ildn (M := M_Ml_actGrow) (pc := 4) (k := 1) h4) ?_
  refine ac (s_callV (M := M_Ml_actGrow) (pc := 5) (tz_Ml rfl) h5 q_Mo_canTake wd1261 wd1248 wd1249 rfl (T := TX2) (N := 6) rfl) ?_
  refine ac (s_if_ne (M := M_Ml_actGrow) (pc := 8) h8 (by decide)) ?_
  refine ac (s_aldn (M := M_Ml_actGrow) (pc := 11) (k := 0) h11) ?_
  refine ac (s_iconst (M := M_Ml_actGrow) (pc := 12) h12 rfl) ?_
  refine ac (s_callV (M := M_Ml_actGrow) (pc := 13) (tz_Ml rfl) h13 q_Ml_refuse wd599 wd600 wd601 rfl (T := TX1) (N := 4) rfl) ?_
  refine ac (s_iret (M := M_Ml_actGrow) (pc := 16) h16 rfl) ?_
  refine ac (s_aldn (M := M_Ml_actGrow) (pc := 17) (k := 0) h17) ?_
  refine ac (s_get (M := M_Ml_actGrow) (pc := 18) (T := TX1) (N := 4) h18 rfl in_X1 (by decide) wd99) ?_
  refine ac (s_ildn (M := M_Ml_actGrow) (pc := 21) (k := 1) h21) ?_
  refine ac (s_callV (M := M_Ml_actGrow) (pc := 22) (tz_Ml rfl) h22 q_Mo_insert wd1262 wd251 wd252 rfl (T := TX2) (N := 6) rfl) ?_
  refine ac (s_aldn (M := M_Ml_actGrow) (pc := 25) (k := 0) h25) ?_
  refine ac (s_iconst (M := M_Ml_actGrow) (pc := 26) h26 rfl) ?_
  refine ac (s_callV (M := M_Ml_actGrow) (pc := 27) (tz_Ml rfl) h27 q_Ml_book wd595 wd596 wd597 rfl (T := TX1) (N := 4) rfl) ?_
  refine ac (s_iconst (M := M_Ml_actGrow) (pc := 30) h30 rfl) ?_
  refine ac (s_iret (M := M_Ml_actGrow) (pc := 31) h31 rfl) ?_
  exact ac_nil
theorem e0_Ml_canDrop : decode prog_3_method_25_code 0 = .ok (.aload_n 0, 1) ∧ decode prog_3_method_25_code 1 = .ok (.getfield 12, 3) ∧ decode prog_3_method_25_code 4 = .ok (.getfield 93, 3) ∧ decode prog_3_method_25_code 7 = .ok (.iconst 2, 1) ∧ decode prog_3_method_25_code 8 = .ok (.if_icmp .le 18, 3) ∧ decode prog_3_method_25_code 11 = .ok (.aload_n 0, 1) ∧ decode prog_3_method_25_code 12 = .ok (.getfield 12, 3) ∧ decode prog_3_method_25_code 15 = .ok (.invokevirtual 120, 3) ∧ decode prog_3_method_25_code 18 = .ok (.iconst 1, 1) ∧ decode prog_3_method_25_code 19 = .ok (.if_icmp .ne 9, 3) ∧ decode prog_3_method_25_code 22 = .ok (.iload_n 1, 1) ∧ decode prog_3_method_25_code 23 = .ok (.ifCond .ne 5, 3) := by decide +kernel
theorem e1_Ml_canDrop : decode prog_3_method_25_code 26 = .ok (.iconst 0, 1) ∧ decode prog_3_method_25_code 27 = .ok (.ireturn, 1) ∧ decode prog_3_method_25_code 28 = .ok (.iconst 0, 1) ∧ decode prog_3_method_25_code 29 = .ok (.istore_n 2, 1) ∧ decode prog_3_method_25_code 30 = .ok (.iload_n 2, 1) ∧ decode prog_3_method_25_code 31 = .ok (.bipush 8, 2) ∧ decode prog_3_method_25_code 33 = .ok (.if_icmp .ge 27, 3) ∧ decode prog_3_method_25_code 36 = .ok (.aload_n 0, 1) ∧ decode prog_3_method_25_code 37 = .ok (.getfield 12, 3) ∧ decode prog_3_method_25_code 40 = .ok (.iload_n 1, 1) ∧ decode prog_3_method_25_code 41 = .ok (.aload_n 0, 1) ∧ decode prog_3_method_25_code 42 = .ok (.iload_n 2, 1) := by decide +kernel
theorem e2_Ml_canDrop : decode prog_3_method_25_code 43 = .ok (.invokevirtual 65, 3) ∧ decode prog_3_method_25_code 46 = .ok (.invokevirtual 124, 3) ∧ decode prog_3_method_25_code 49 = .ok (.ifCond .ne 5, 3) ∧ decode prog_3_method_25_code 52 = .ok (.iconst 0, 1) ∧ decode prog_3_method_25_code 53 = .ok (.ireturn, 1) ∧ decode prog_3_method_25_code 54 = .ok (.iinc 2 1, 3) ∧ decode prog_3_method_25_code 57 = .ok (.goto (-27), 3) ∧ decode prog_3_method_25_code 60 = .ok (.iconst 1, 1) ∧ decode prog_3_method_25_code 61 = .ok (.ireturn, 1) := by decide +kernel
def T_Ml_canDrop : TT := [(0, o_ald 0 1), (1, o_get 1 0 4), (4, o_get 2 2 7), (7, o_push (.int (iI (2))) 8), (8, o_icmp_le 26 11), (11, o_ald 0 12), (12, o_get 1 0 15), (15, o_callV M_Mo_bases 2 1 18), (18, o_push (.int (iI (1))) 19), (19, o_icmp_ne 28 22), (22, o_ild 1 23), (23, o_if_ne 28 26), (26, o_push (.int (iI (0))) 27), (27, o_zret), (28, o_push (.int (iI (0))) 29), (29, o_ist 2 30), (30, o_ild 2 31), (31, o_push (.int (iI (8))) 33), (33, o_icmp_ge 60 36), (36, o_ald 0 37), (37, o_get 1 0 40), (40, o_ild 1 41), (41, o_ald 0 42), (42, o_ild 2 43), (43, o_callV M_Ml_numberAt 1 2 46), (46, o_callV M_Mo_tellWithout 2 3 49), (49, o_if_ne 54 52), (52, o_push (.int (iI (0))) 53), (53, o_zret), (54, o_iinc 2 (iI (1)) 57), (57, o_goto 30), (60, o_push (.int (iI (1))) 61), (61, o_zret)]
theorem k_Ml_canDrop : ∀ x ∈ T_Ml_canDrop, SO M_Ml_canDrop x.1 x.2 := by
  obtain ⟨h0, h1, h4, h7, h8, h11, h12, h15, h18, h19, h22, h23⟩ := e0_Ml_canDrop
  obtain ⟨h26, h27, h28, h29, h30, h31, h33, h36, h37, h40, h41, h42⟩ := e1_Ml_canDrop
  obtain ⟨h43, h46, h49, h52, h53, h54, h57, h60, h61⟩ := e2_Ml_canDrop
  refine ac (s_aldn (M := M_Ml_canDrop) (pc := 0) (k := 0) h0) ?_
  refine ac (s_get (M := M_Ml_canDrop) (pc := 1) (T := TX1) (N := 4) h1 rfl in_X1 (by decide) wd99) ?_
  refine ac (s_get (M := M_Ml_canDrop) (pc := 4) (T := TX2) (N := 6) h4 rfl in_X2 (by decide) wd75) ?_
  refine ac (s_iconst (M := M_Ml_canDrop) (pc := 7) h7 rfl) ?_
  refine ac (s_icmp_le (M := M_Ml_canDrop) (pc := 8) h8 (by decide)) ?_
  refine ac (s_aldn (M := M_Ml_canDrop) (pc := 11) (k := 0) h11) ?_
  refine ac (s_get (M := M_Ml_canDrop) (pc := 12) (T := TX1) (N := 4) h12 rfl in_X1 (by decide) wd99) ?_
  refine ac (s_callV (M := M_Ml_canDrop) (pc := 15) (tz_Ml rfl) h15 q_Mo_bases wd1271 wd255 wd256 rfl (T := TX2) (N := 6) rfl) ?_
  refine ac (s_iconst (M := M_Ml_canDrop) (pc := 18) h18 rfl) ?_
  refine ac (s_icmp_ne (M := M_Ml_canDrop) (pc := 19) h19 (by decide)) ?_
  refine ac (s_ildn (M := M_Ml_canDrop) (pc := 22) (k := 1) h22) ?_
  refine ac (s_if_ne (M := M_Ml_canDrop) (pc := 23) h23 (by decide)) ?_
  refine ac (s_iconst (M := M_Ml_canDrop) (pc := 26) h26 rfl) ?_
  refine ac (s_zret (M := M_Ml_canDrop) (pc := 27) h27 rfl) ?_
  refine ac (s_iconst (M := M_Ml_canDrop) (pc := 28) h28 rfl) ?_
  refine ac (s_istn (M := M_Ml_canDrop) (pc := 29) (k := 2) h29 (by decide)) ?_
  refine ac (s_ildn (M := M_Ml_canDrop) (pc := 30) (k := 2) h30) ?_
  refine ac (s_bipush (M := M_Ml_canDrop) (pc := 31) h31 (by decide)) ?_
  refine ac (s_icmp_ge (M := M_Ml_canDrop) (pc := 33) h33 (by decide)) ?_
  refine ac (s_aldn (M := M_Ml_canDrop) (pc := 36) (k := 0) h36) ?_
  refine ac (s_get (M := M_Ml_canDrop) (pc := 37) (T := TX1) (N := 4) h37 rfl in_X1 (by decide) wd99) ?_
  refine ac (s_ildn (M := M_Ml_canDrop) (pc := 40) (k := 1) h40) ?_
  refine ac (s_aldn (M := M_Ml_canDrop) (pc := 41) (k := 0) h41) ?_
  refine ac (s_ildn (M := M_Ml_canDrop) (pc := 42) (k := 2) h42) ?_
  refine ac (s_callV (M := M_Ml_canDrop) (pc := 43) (tz_Ml rfl) h43 q_Ml_numberAt wd334 wd335 wd336 rfl (T := TX1) (N := 4) rfl) ?_
  refine ac (s_callV (M := M_Ml_canDrop) (pc := 46) (tz_Ml rfl) h46 q_Mo_tellWithout wd1272 wd1273 wd1274 rfl (T := TX2) (N := 6) rfl) ?_
  refine ac (s_if_ne (M := M_Ml_canDrop) (pc := 49) h49 (by decide)) ?_
  refine ac (s_iconst (M := M_Ml_canDrop) (pc := 52) h52 rfl) ?_
  refine ac (s_zret (M := M_Ml_canDrop) (pc := 53) h53 rfl) ?_
  refine ac (s_iinc (M := M_Ml_canDrop) (pc := 54) h54 rfl (by decide)) ?_
  refine ac (s_goto (M := M_Ml_canDrop) (pc := 57) h57 (by decide)) ?_
  refine ac (s_iconst (M := M_Ml_canDrop) (pc := 60) h60 rfl) ?_
  refine ac (s_zret (M := M_Ml_canDrop) (pc := 61) h61 rfl) ?_
  exact ac_nil
theorem e0_Ml_actDrop : decode prog_3_method_34_code 0 = .ok (.aload_n 0, 1) ∧ decode prog_3_method_34_code 1 = .ok (.iload_n 1, 1) ∧ decode prog_3_method_34_code 2 = .ok (.invokevirtual 159, 3) ∧ decode prog_3_method_34_code 5 = .ok (.ifCond .ne 9, 3) ∧ decode prog_3_method_34_code 8 = .ok (.aload_n 0, 1) ∧ decode prog_3_method_34_code 9 = .ok (.iconst 4, 1) ∧ decode prog_3_method_34_code 10 = .ok (.invokevirtual 142, 3) ∧ decode prog_3_method_34_code 13 = .ok (.ireturn, 1) ∧ decode prog_3_method_34_code 14 = .ok (.aload_n 0, 1) ∧ decode prog_3_method_34_code 15 = .ok (.getfield 12, 3) ∧ decode prog_3_method_34_code 18 = .ok (.iload_n 1, 1) ∧ decode prog_3_method_34_code 19 = .ok (.invokevirtual 162, 3) := by decide +kernel
theorem e1_Ml_actDrop : decode prog_3_method_34_code 22 = .ok (.aload_n 0, 1) ∧ decode prog_3_method_34_code 23 = .ok (.iconst 0, 1) ∧ decode prog_3_method_34_code 24 = .ok (.invokevirtual 53, 3) ∧ decode prog_3_method_34_code 27 = .ok (.iconst 0, 1) ∧ decode prog_3_method_34_code 28 = .ok (.ireturn, 1) := by decide +kernel
def T_Ml_actDrop : TT := [(0, o_ald 0 1), (1, o_ild 1 2), (2, o_callV M_Ml_canDrop 1 2 5), (5, o_if_ne 14 8), (8, o_ald 0 9), (9, o_push (.int (iI (4))) 10), (10, o_callV M_Ml_refuse 1 2 13), (13, o_iret), (14, o_ald 0 15), (15, o_get 1 0 18), (18, o_ild 1 19), (19, o_callV M_Mo_remove 2 2 22), (22, o_ald 0 23), (23, o_push (.int (iI (0))) 24), (24, o_callV M_Ml_book 1 2 27), (27, o_push (.int (iI (0))) 28), (28, o_iret)]
theorem k_Ml_actDrop : ∀ x ∈ T_Ml_actDrop, SO M_Ml_actDrop x.1 x.2 := by
  obtain ⟨h0, h1, h2, h5, h8, h9, h10, h13, h14, h15, h18, h19⟩ := e0_Ml_actDrop
  obtain ⟨h22, h23, h24, h27, h28⟩ := e1_Ml_actDrop
  refine ac (s_aldn (M := M_Ml_actDrop) (pc := 0) (k := 0) h0) ?_
  refine ac (s_ildn (M := M_Ml_actDrop) (pc := 1) (k := 1) h1) ?_
  refine ac (s_callV (M := M_Ml_actDrop) (pc := 2) (tz_Ml rfl) h2 q_Ml_canDrop wd1285 wd1268 wd1269 rfl (T := TX1) (N := 4) rfl) ?_
  refine ac (s_if_ne (M := M_Ml_actDrop) (pc := 5) h5 (by decide)) ?_
  refine ac (s_aldn (M := M_Ml_actDrop) (pc := 8) (k := 0) h8) ?_
  refine ac (s_iconst (M := M_Ml_actDrop) (pc := 9) h9 rfl) ?_
  refine ac (s_callV (M := M_Ml_actDrop) (pc := 10) (tz_Ml rfl) h10 q_Ml_refuse wd599 wd600 wd601 rfl (T := TX1) (N := 4) rfl) ?_
  refine ac (s_iret (M := M_Ml_actDrop) (pc := 13) h13 rfl) ?_
  refine ac (s_aldn (M := M_Ml_actDrop) (pc := 14) (k := 0) h14) ?_
  refine ac (s_get (M := M_Ml_actDrop) (pc := 15) (T := TX1) (N := 4) h15 rfl in_X1 (by decide) wd99) ?_
  refine ac (s_ildn (M := M_Ml_actDrop) (pc := 18) (k := 1) h18) ?_
  refine ac (s_callV (M := M_Ml_actDrop) (pc := 19) (tz_Ml rfl) h19 q_Mo_remove wd1286 wd1287 wd1288 rfl (T := TX2) (N := 6) rfl) ?_
  refine ac (s_aldn (M := M_Ml_actDrop) (pc := 22) (k := 0) h22) ?_
  refine ac (s_iconst (M := M_Ml_actDrop) (pc := 23) h23 rfl) ?_
  refine ac (s_callV (M := M_Ml_actDrop) (pc := 24) (tz_Ml rfl) h24 q_Ml_book wd595 wd596 wd597 rfl (T := TX1) (N := 4) rfl) ?_
  refine ac (s_iconst (M := M_Ml_actDrop) (pc := 27) h27 rfl) ?_
  refine ac (s_iret (M := M_Ml_actDrop) (pc := 28) h28 rfl) ?_
  exact ac_nil
