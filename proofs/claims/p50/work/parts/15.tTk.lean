theorem e0_Ch_prepare : decode prog_2_method_3_code 0 = .ok (.aload_n 0, 1) ∧ decode prog_2_method_3_code 1 = .ok (.aload_n 0, 1) ∧ decode prog_2_method_3_code 2 = .ok (.getfield 22, 3) ∧ decode prog_2_method_3_code 5 = .ok (.invokevirtual 25, 3) ∧ decode prog_2_method_3_code 8 = .ok (.astore_n 2, 1) ∧ decode prog_2_method_3_code 9 = .ok (.aload_n 2, 1) ∧ decode prog_2_method_3_code 10 = .ok (.ifnull 8, 3) ∧ decode prog_2_method_3_code 13 = .ok (.aload_n 2, 1) ∧ decode prog_2_method_3_code 14 = .ok (.aload_n 1, 1) ∧ decode prog_2_method_3_code 15 = .ok (.invokevirtual 29, 3) ∧ decode prog_2_method_3_code 18 = .ok (.return_, 1) := by decide +kernel
def T_Ch_prepare : TT := [(0, o_ald 0 1), (1, o_ald 0 2), (2, o_get 3 1 5), (5, o_callV M_Ch_slotAt 3 2 8), (8, o_ast 2 9), (9, o_ald 2 10), (10, o_ifnull 18 13), (13, o_ald 2 14), (14, o_ald 1 15), (15, o_callV M_Ml_copyFrom 1 2 18), (18, o_vret)]
theorem k_Ch_prepare : ∀ x ∈ T_Ch_prepare, SO M_Ch_prepare x.1 x.2 := by
  obtain ⟨h0, h1, h2, h5, h8, h9, h10, h13, h14, h15, h18⟩ := e0_Ch_prepare
  refine ac (s_aldn (M := M_Ch_prepare) (pc := 0) (k := 0) h0) ?_
  refine ac (s_aldn (M := M_Ch_prepare) (pc := 1) (k := 0) h1) ?_
  refine ac (s_get (M := M_Ch_prepare) (pc := 2) (T := TX0) (N := 3) h2 rfl in_X0 (by decide) wd126) ?_
  refine ac (s_callV (M := M_Ch_prepare) (pc := 5) (tz_Ch rfl) h5 q_Ch_slotAt wd563 wd565 wd5 rfl (T := TX0) (N := 3) rfl) ?_
  refine ac (s_astn (M := M_Ch_prepare) (pc := 8) (k := 2) h8 (by decide)) ?_
  refine ac (s_aldn (M := M_Ch_prepare) (pc := 9) (k := 2) h9) ?_
  refine ac (s_ifnull (M := M_Ch_prepare) (pc := 10) h10 (by decide)) ?_
  refine ac (s_aldn (M := M_Ch_prepare) (pc := 13) (k := 2) h13) ?_
  refine ac (s_aldn (M := M_Ch_prepare) (pc := 14) (k := 1) h14) ?_
  refine ac (s_callV (M := M_Ch_prepare) (pc := 15) (tz_Ch rfl) h15 q_Ml_copyFrom wd567 wd568 wd569 rfl (T := TX1) (N := 4) rfl) ?_
  refine ac (s_vret (M := M_Ch_prepare) (pc := 18) h18 rfl) ?_
  exact ac_nil
theorem e0_Ch_slotAt : decode prog_2_method_7_code 0 = .ok (.iload_n 1, 1) ∧ decode prog_2_method_7_code 1 = .ok (.ifCond .lt 12, 3) ∧ decode prog_2_method_7_code 4 = .ok (.iload_n 1, 1) ∧ decode prog_2_method_7_code 5 = .ok (.aload_n 0, 1) ∧ decode prog_2_method_7_code 6 = .ok (.getfield 11, 3) ∧ decode prog_2_method_7_code 9 = .ok (.arraylength, 1) ∧ decode prog_2_method_7_code 10 = .ok (.if_icmp .lt 7, 3) ∧ decode prog_2_method_7_code 13 = .ok (.aconst_null, 1) ∧ decode prog_2_method_7_code 14 = .ok (.goto 9, 3) ∧ decode prog_2_method_7_code 17 = .ok (.aload_n 0, 1) ∧ decode prog_2_method_7_code 18 = .ok (.getfield 11, 3) ∧ decode prog_2_method_7_code 21 = .ok (.iload_n 1, 1) := by decide +kernel
theorem e1_Ch_slotAt : decode prog_2_method_7_code 22 = .ok (.aaload, 1) ∧ decode prog_2_method_7_code 23 = .ok (.areturn, 1) := by decide +kernel
def T_Ch_slotAt : TT := [(0, o_ild 1 1), (1, o_if_lt 13 4), (4, o_ild 1 5), (5, o_ald 0 6), (6, o_get 3 0 9), (9, o_alen 10), (10, o_icmp_lt 17 13), (13, o_push .null 14), (14, o_goto 23), (17, o_ald 0 18), (18, o_get 3 0 21), (21, o_ild 1 22), (22, o_aald 23), (23, o_aret)]
theorem k_Ch_slotAt : ∀ x ∈ T_Ch_slotAt, SO M_Ch_slotAt x.1 x.2 := by
  obtain ⟨h0, h1, h4, h5, h6, h9, h10, h13, h14, h17, h18, h21⟩ := e0_Ch_slotAt
  obtain ⟨h22, h23⟩ := e1_Ch_slotAt
  refine ac (s_ildn (M := M_Ch_slotAt) (pc := 0) (k := 1) h0) ?_
  refine ac (s_if_lt (M := M_Ch_slotAt) (pc := 1) h1 (by decide)) ?_
  refine ac (s_ildn (M := M_Ch_slotAt) (pc := 4) (k := 1) h4) ?_
  refine ac (s_aldn (M := M_Ch_slotAt) (pc := 5) (k := 0) h5) ?_
  refine ac (s_get (M := M_Ch_slotAt) (pc := 6) (T := TX0) (N := 3) h6 rfl in_X0 (by decide) wd125) ?_
  refine ac (s_alen (M := M_Ch_slotAt) (pc := 9) h9) ?_
  refine ac (s_icmp_lt (M := M_Ch_slotAt) (pc := 10) h10 (by decide)) ?_
  refine ac (s_null (M := M_Ch_slotAt) (pc := 13) h13) ?_
  refine ac (s_goto (M := M_Ch_slotAt) (pc := 14) h14 (by decide)) ?_
  refine ac (s_aldn (M := M_Ch_slotAt) (pc := 17) (k := 0) h17) ?_
  refine ac (s_get (M := M_Ch_slotAt) (pc := 18) (T := TX0) (N := 3) h18 rfl in_X0 (by decide) wd125) ?_
  refine ac (s_ildn (M := M_Ch_slotAt) (pc := 21) (k := 1) h21) ?_
  refine ac (s_aald (M := M_Ch_slotAt) (pc := 22) h22) ?_
  refine ac (s_aret (M := M_Ch_slotAt) (pc := 23) h23 rfl (Or.inl ⟨_, rfl⟩)) ?_
  exact ac_nil
theorem e0_Ch_keepIfDone : decode prog_2_method_5_code 0 = .ok (.iload_n 1, 1) ∧ decode prog_2_method_5_code 1 = .ok (.ifCond .ne 7, 3) ∧ decode prog_2_method_5_code 4 = .ok (.aload_n 0, 1) ∧ decode prog_2_method_5_code 5 = .ok (.invokevirtual 39, 3) ∧ decode prog_2_method_5_code 8 = .ok (.iload_n 1, 1) ∧ decode prog_2_method_5_code 9 = .ok (.ireturn, 1) := by decide +kernel
def T_Ch_keepIfDone : TT := [(0, o_ild 1 1), (1, o_if_ne 8 4), (4, o_ald 0 5), (5, o_callV M_Ch_keep 3 1 8), (8, o_ild 1 9), (9, o_iret)]
theorem k_Ch_keepIfDone : ∀ x ∈ T_Ch_keepIfDone, SO M_Ch_keepIfDone x.1 x.2 := by
  obtain ⟨h0, h1, h4, h5, h8, h9⟩ := e0_Ch_keepIfDone
  refine ac (s_ildn (M := M_Ch_keepIfDone) (pc := 0) (k := 1) h0) ?_
  refine ac (s_if_ne (M := M_Ch_keepIfDone) (pc := 1) h1 (by decide)) ?_
  refine ac (s_aldn (M := M_Ch_keepIfDone) (pc := 4) (k := 0) h4) ?_
  refine ac (s_callV (M := M_Ch_keepIfDone) (pc := 5) (tz_Ch rfl) h5 q_Ch_keep wd607 wd608 wd609 rfl (T := TX0) (N := 3) rfl) ?_
  refine ac (s_ildn (M := M_Ch_keepIfDone) (pc := 8) (k := 1) h8) ?_
  refine ac (s_iret (M := M_Ch_keepIfDone) (pc := 9) h9 rfl) ?_
  exact ac_nil
theorem e0_Ch_keep : decode prog_2_method_4_code 0 = .ok (.aload_n 0, 1) ∧ decode prog_2_method_4_code 1 = .ok (.aload_n 0, 1) ∧ decode prog_2_method_4_code 2 = .ok (.getfield 22, 3) ∧ decode prog_2_method_4_code 5 = .ok (.iconst 1, 1) ∧ decode prog_2_method_4_code 6 = .ok (.iadd, 1) ∧ decode prog_2_method_4_code 7 = .ok (.bipush 9, 2) ∧ decode prog_2_method_4_code 9 = .ok (.irem, 1) ∧ decode prog_2_method_4_code 10 = .ok (.putfield 22, 3) ∧ decode prog_2_method_4_code 13 = .ok (.aload_n 0, 1) ∧ decode prog_2_method_4_code 14 = .ok (.aload_n 0, 1) ∧ decode prog_2_method_4_code 15 = .ok (.getfield 18, 3) ∧ decode prog_2_method_4_code 18 = .ok (.iconst 1, 1) := by decide +kernel
theorem e1_Ch_keep : decode prog_2_method_4_code 19 = .ok (.iadd, 1) ∧ decode prog_2_method_4_code 20 = .ok (.bipush 8, 2) ∧ decode prog_2_method_4_code 22 = .ok (.invokestatic 33, 3) ∧ decode prog_2_method_4_code 25 = .ok (.putfield 18, 3) ∧ decode prog_2_method_4_code 28 = .ok (.return_, 1) := by decide +kernel
def T_Ch_keep : TT := [(0, o_ald 0 1), (1, o_ald 0 2), (2, o_get 3 1 5), (5, o_push (.int (iI (1))) 6), (6, o_iadd 7), (7, o_push (.int (iI (9))) 9), (9, o_irem 10), (10, o_puti 3 1 13), (13, o_ald 0 14), (14, o_ald 0 15), (15, o_get 3 2 18), (18, o_push (.int (iI (1))) 19), (19, o_iadd 20), (20, o_push (.int (iI (8))) 22), (22, o_call M_jMath_min 2 25), (25, o_puti 3 2 28), (28, o_vret)]
theorem k_Ch_keep : ∀ x ∈ T_Ch_keep, SO M_Ch_keep x.1 x.2 := by
  obtain ⟨h0, h1, h2, h5, h6, h7, h9, h10, h13, h14, h15, h18⟩ := e0_Ch_keep
  obtain ⟨h19, h20, h22, h25, h28⟩ := e1_Ch_keep
  refine ac (s_aldn (M := M_Ch_keep) (pc := 0) (k := 0) h0) ?_
  refine ac (s_aldn (M := M_Ch_keep) (pc := 1) (k := 0) h1) ?_
  refine ac (s_get (M := M_Ch_keep) (pc := 2) (T := TX0) (N := 3) h2 rfl in_X0 (by decide) wd126) ?_
  refine ac (s_iconst (M := M_Ch_keep) (pc := 5) h5 rfl) ?_
  refine ac (s_iadd (M := M_Ch_keep) (pc := 6) h6) ?_
  refine ac (s_bipush (M := M_Ch_keep) (pc := 7) h7 (by decide)) ?_
  refine ac (s_irem (M := M_Ch_keep) (pc := 9) h9) ?_
  refine ac (s_puti (M := M_Ch_keep) (pc := 10) (T := TX0) (N := 3) (ty0 := tyX0) h10 ⟨rfl, in_X0, by decide, wd126, tyX0_ok, nmX0, (Or.inl rfl)⟩ rfl) ?_
  refine ac (s_aldn (M := M_Ch_keep) (pc := 13) (k := 0) h13) ?_
  refine ac (s_aldn (M := M_Ch_keep) (pc := 14) (k := 0) h14) ?_
  refine ac (s_get (M := M_Ch_keep) (pc := 15) (T := TX0) (N := 3) h15 rfl in_X0 (by decide) wd127) ?_
  refine ac (s_iconst (M := M_Ch_keep) (pc := 18) h18 rfl) ?_
  refine ac (s_iadd (M := M_Ch_keep) (pc := 19) h19) ?_
  refine ac (s_bipush (M := M_Ch_keep) (pc := 20) h20 (by decide)) ?_
  refine ac (s_callS (M := M_Ch_keep) (pc := 22) (tz_Ch rfl) h22 q_jMath_min wd611 wd612) ?_
  refine ac (s_puti (M := M_Ch_keep) (pc := 25) (T := TX0) (N := 3) (ty0 := tyX0) h25 ⟨rfl, in_X0, by decide, wd127, tyX0_ok, nmX0, (Or.inl rfl)⟩ rfl) ?_
  refine ac (s_vret (M := M_Ch_keep) (pc := 28) h28 rfl) ?_
  exact ac_nil
theorem e0_Ch_clear : decode prog_2_method_2_code 0 = .ok (.aload_n 0, 1) ∧ decode prog_2_method_2_code 1 = .ok (.iconst 0, 1) ∧ decode prog_2_method_2_code 2 = .ok (.putfield 18, 3) ∧ decode prog_2_method_2_code 5 = .ok (.return_, 1) := by decide +kernel
def T_Ch_clear : TT := [(0, o_ald 0 1), (1, o_push (.int (iI (0))) 2), (2, o_puti 3 2 5), (5, o_vret)]
theorem k_Ch_clear : ∀ x ∈ T_Ch_clear, SO M_Ch_clear x.1 x.2 := by
  obtain ⟨h0, h1, h2, h5⟩ := e0_Ch_clear
  refine ac (s_aldn (M := M_Ch_clear) (pc := 0) (k := 0) h0) ?_
  refine ac (s_iconst (M := M_Ch_clear) (pc := 1) h1 rfl) ?_
  refine ac (s_puti (M := M_Ch_clear) (pc := 2) (T := TX0) (N := 3) (ty0 := tyX0) h2 ⟨rfl, in_X0, by decide, wd127, tyX0_ok, nmX0, (Or.inl rfl)⟩ rfl) ?_
  refine ac (s_vret (M := M_Ch_clear) (pc := 5) h5 rfl) ?_
  exact ac_nil
theorem e0_Tk_read : decode prog_8_method_2_code 0 = .ok (.aload_n 0, 1) ∧ decode prog_8_method_2_code 1 = .ok (.iconst 0, 1) ∧ decode prog_8_method_2_code 2 = .ok (.putfield 28, 3) ∧ decode prog_8_method_2_code 5 = .ok (.aload_n 0, 1) ∧ decode prog_8_method_2_code 6 = .ok (.iconst 0, 1) ∧ decode prog_8_method_2_code 7 = .ok (.putfield 31, 3) ∧ decode prog_8_method_2_code 10 = .ok (.aload_n 0, 1) ∧ decode prog_8_method_2_code 11 = .ok (.iconst 0, 1) ∧ decode prog_8_method_2_code 12 = .ok (.putfield 21, 3) ∧ decode prog_8_method_2_code 15 = .ok (.aload_n 0, 1) ∧ decode prog_8_method_2_code 16 = .ok (.iconst (-1), 1) ∧ decode prog_8_method_2_code 17 = .ok (.putfield 25, 3) := by decide +kernel
theorem e1_Tk_read : decode prog_8_method_2_code 20 = .ok (.iconst 0, 1) ∧ decode prog_8_method_2_code 21 = .ok (.istore_n 3, 1) ∧ decode prog_8_method_2_code 22 = .ok (.iconst 0, 1) ∧ decode prog_8_method_2_code 23 = .ok (.istore 4, 2) ∧ decode prog_8_method_2_code 25 = .ok (.iload 4, 2) ∧ decode prog_8_method_2_code 27 = .ok (.sipush 500, 3) ∧ decode prog_8_method_2_code 30 = .ok (.if_icmp .ge 22, 3) ∧ decode prog_8_method_2_code 33 = .ok (.iload_n 3, 1) ∧ decode prog_8_method_2_code 34 = .ok (.iload_n 2, 1) ∧ decode prog_8_method_2_code 35 = .ok (.if_icmp .ge 17, 3) ∧ decode prog_8_method_2_code 38 = .ok (.aload_n 0, 1) ∧ decode prog_8_method_2_code 39 = .ok (.aload_n 1, 1) := by decide +kernel
theorem e2_Tk_read : decode prog_8_method_2_code 40 = .ok (.iload_n 3, 1) ∧ decode prog_8_method_2_code 41 = .ok (.iload_n 2, 1) ∧ decode prog_8_method_2_code 42 = .ok (.invokevirtual 34, 3) ∧ decode prog_8_method_2_code 45 = .ok (.istore_n 3, 1) ∧ decode prog_8_method_2_code 46 = .ok (.iinc 4 1, 3) ∧ decode prog_8_method_2_code 49 = .ok (.goto (-24), 3) ∧ decode prog_8_method_2_code 52 = .ok (.aload_n 0, 1) ∧ decode prog_8_method_2_code 53 = .ok (.sipush 256, 3) ∧ decode prog_8_method_2_code 56 = .ok (.iconst 0, 1) ∧ decode prog_8_method_2_code 57 = .ok (.iload_n 2, 1) ∧ decode prog_8_method_2_code 58 = .ok (.invokevirtual 38, 3) ∧ decode prog_8_method_2_code 61 = .ok (.return_, 1) := by decide +kernel
def T_Tk_read : TT := [(0, o_ald 0 1), (1, o_push (.int (iI (0))) 2), (2, o_puti 4 3 5), (5, o_ald 0 6), (6, o_push (.int (iI (0))) 7), (7, o_puti 4 4 10), (10, o_ald 0 11), (11, o_push (.int (iI (0))) 12), (12, o_puti 4 5 15), (15, o_ald 0 16), (16, o_push (.int (iI (-1))) 17), (17, o_puti 4 6 20), (20, o_push (.int (iI (0))) 21), (21, o_ist 3 22), (22, o_push (.int (iI (0))) 23), (23, o_ist 4 25), (25, o_ild 4 27), (27, o_push (.int (iI (500))) 30), (30, o_icmp_ge 52 33), (33, o_ild 3 34), (34, o_ild 2 35), (35, o_icmp_ge 52 38), (38, o_ald 0 39), (39, o_ald 1 40), (40, o_ild 3 41), (41, o_ild 2 42), (42, o_callV M_Tk_readToken 4 4 45), (45, o_ist 3 46), (46, o_iinc 4 (iI (1)) 49), (49, o_goto 25), (52, o_ald 0 53), (53, o_push (.int (iI (256))) 56), (56, o_push (.int (iI (0))) 57), (57, o_ild 2 58), (58, o_callV M_Tk_add 4 4 61), (61, o_vret)]
theorem k_Tk_read : ∀ x ∈ T_Tk_read, SO M_Tk_read x.1 x.2 := by
  obtain ⟨h0, h1, h2, h5, h6, h7, h10, h11, h12, h15, h16, h17⟩ := e0_Tk_read
  obtain ⟨h20, h21, h22, h23, h25, h27, h30, h33, h34, h35, h38, h39⟩ := e1_Tk_read
  obtain ⟨h40, h41, h42, h45, h46, h49, h52, h53, h56, h57, h58, h61⟩ := e2_Tk_read
  refine ac (s_aldn (M := M_Tk_read) (pc := 0) (k := 0) h0) ?_
  refine ac (s_iconst (M := M_Tk_read) (pc := 1) h1 rfl) ?_
  refine ac (s_puti (M := M_Tk_read) (pc := 2) (T := TX6) (N := 7) (ty0 := tyX6) h2 ⟨rfl, in_X6, by decide, wd151, tyX6_ok, nmX6, (Or.inl rfl)⟩ rfl) ?_
  refine ac (s_aldn (M := M_Tk_read) (pc := 5) (k := 0) h5) ?_
  refine ac (s_iconst (M := M_Tk_read) (pc := 6) h6 rfl) ?_
  refine ac (s_puti (M := M_Tk_read) (pc := 7) (T := TX6) (N := 7) (ty0 := tyX6) h7 ⟨rfl, in_X6, by decide, wd152, tyX6_ok, nmX6, (Or.inl rfl)⟩ rfl) ?_
  refine ac (s_aldn (M := M_Tk_read) (pc := 10) (k := 0) h10) ?_
  refine ac (s_iconst (M := M_Tk_read) (pc := 11) h11 rfl) ?_
  refine ac (s_puti (M := M_Tk_read) (pc := 12) (T := TX6) (N := 7) (ty0 := tyX6) h12 ⟨rfl, in_X6, by decide, wd153, tyX6_ok, nmX6, (Or.inl rfl)⟩ rfl) ?_
  refine ac (s_aldn (M := M_Tk_read) (pc := 15) (k := 0) h15) ?_
  refine ac (s_iconst (M := M_Tk_read) (pc := 16) h16 rfl) ?_
  refine ac (s_puti (M := M_Tk_read) (pc := 17) (T := TX6) (N := 7) (ty0 := tyX6) h17 ⟨rfl, in_X6, by decide, wd155, tyX6_ok, nmX6, (Or.inl rfl)⟩ rfl) ?_
  refine ac (s_iconst (M := M_Tk_read) (pc := 20) h20 rfl) ?_
  refine ac (s_istn (M := M_Tk_read) (pc := 21) (k := 3) h21 (by decide)) ?_
  refine ac (s_iconst (M := M_Tk_read) (pc := 22) h22 rfl) ?_
  refine ac (s_ist (M := M_Tk_read) (pc := 23) h23 (by decide)) ?_
  refine ac (s_ild (M := M_Tk_read) (pc := 25) h25) ?_
  refine ac (s_sipush (M := M_Tk_read) (pc := 27) h27 (by decide)) ?_
  refine ac (s_icmp_ge (M := M_Tk_read) (pc := 30) h30 (by decide)) ?_
  refine ac (s_ildn (M := M_Tk_read) (pc := 33) (k := 3) h33) ?_
  refine ac (s_ildn (M := M_Tk_read) (pc := 34) (k := 2) h34) ?_
  refine ac (s_icmp_ge (M := M_Tk_read) (pc := 35) h35 (by decide)) ?_
  refine ac (s_aldn (M := M_Tk_read) (pc := 38) (k := 0) h38) ?_
  refine ac (s_aldn (M := M_Tk_read) (pc := 39) (k := 1) h39) ?_
  refine ac (s_ildn (M := M_Tk_read) (pc := 40) (k := 3) h40) ?_
  refine ac (s_ildn (M := M_Tk_read) (pc := 41) (k := 2) h41) ?_
  refine ac (s_callV (M := M_Tk_read) (pc := 42) (tz_Tk rfl) h42 q_Tk_readToken wd738 wd740 wd7 rfl (T := TX6) (N := 7) rfl) ?_
  refine ac (s_istn (M := M_Tk_read) (pc := 45) (k := 3) h45 (by decide)) ?_
  refine ac (s_iinc (M := M_Tk_read) (pc := 46) h46 rfl (by decide)) ?_
  refine ac (s_goto (M := M_Tk_read) (pc := 49) h49 (by decide)) ?_
  refine ac (s_aldn (M := M_Tk_read) (pc := 52) (k := 0) h52) ?_
  refine ac (s_sipush (M := M_Tk_read) (pc := 53) h53 (by decide)) ?_
  refine ac (s_iconst (M := M_Tk_read) (pc := 56) h56 rfl) ?_
  refine ac (s_ildn (M := M_Tk_read) (pc := 57) (k := 2) h57) ?_
  refine ac (s_callV (M := M_Tk_read) (pc := 58) (tz_Tk rfl) h58 q_Tk_add wd752 wd754 wd9 rfl (T := TX6) (N := 7) rfl) ?_
  refine ac (s_vret (M := M_Tk_read) (pc := 61) h61 rfl) ?_
  exact ac_nil
theorem e0_Tk_byteAt : decode prog_8_method_15_code 0 = .ok (.iload_n 1, 1) ∧ decode prog_8_method_15_code 1 = .ok (.ifCond .lt 9, 3) ∧ decode prog_8_method_15_code 4 = .ok (.iload_n 1, 1) ∧ decode prog_8_method_15_code 5 = .ok (.aload_n 0, 1) ∧ decode prog_8_method_15_code 6 = .ok (.arraylength, 1) ∧ decode prog_8_method_15_code 7 = .ok (.if_icmp .lt 7, 3) ∧ decode prog_8_method_15_code 10 = .ok (.iconst 0, 1) ∧ decode prog_8_method_15_code 11 = .ok (.goto 10, 3) ∧ decode prog_8_method_15_code 14 = .ok (.aload_n 0, 1) ∧ decode prog_8_method_15_code 15 = .ok (.iload_n 1, 1) ∧ decode prog_8_method_15_code 16 = .ok (.baload, 1) ∧ decode prog_8_method_15_code 17 = .ok (.sipush 255, 3) := by decide +kernel
theorem e1_Tk_byteAt : decode prog_8_method_15_code 20 = .ok (.iand, 1) ∧ decode prog_8_method_15_code 21 = .ok (.ireturn, 1) := by decide +kernel
def T_Tk_byteAt : TT := [(0, o_ild 1 1), (1, o_if_lt 10 4), (4, o_ild 1 5), (5, o_ald 0 6), (6, o_alen 7), (7, o_icmp_lt 14 10), (10, o_push (.int (iI (0))) 11), (11, o_goto 21), (14, o_ald 0 15), (15, o_ild 1 16), (16, o_bald 17), (17, o_push (.int (iI (255))) 20), (20, o_iand 21), (21, o_iret)]
theorem k_Tk_byteAt : ∀ x ∈ T_Tk_byteAt, SO M_Tk_byteAt x.1 x.2 := by
  obtain ⟨h0, h1, h4, h5, h6, h7, h10, h11, h14, h15, h16, h17⟩ := e0_Tk_byteAt
  obtain ⟨h20, h21⟩ := e1_Tk_byteAt
  refine ac (s_ildn (M := M_Tk_byteAt) (pc := 0) (k := 1) h0) ?_
  refine ac (s_if_lt (M := M_Tk_byteAt) (pc := 1) h1 (by decide)) ?_
  refine ac (s_ildn (M := M_Tk_byteAt) (pc := 4) (k := 1) h4) ?_
  refine ac (s_aldn (M := M_Tk_byteAt) (pc := 5) (k := 0) h5) ?_
  refine ac (s_alen (M := M_Tk_byteAt) (pc := 6) h6) ?_
  refine ac (s_icmp_lt (M := M_Tk_byteAt) (pc := 7) h7 (by decide)) ?_
  refine ac (s_iconst (M := M_Tk_byteAt) (pc := 10) h10 rfl) ?_
  refine ac (s_goto (M := M_Tk_byteAt) (pc := 11) h11 (by decide)) ?_
  refine ac (s_aldn (M := M_Tk_byteAt) (pc := 14) (k := 0) h14) ?_
  refine ac (s_ildn (M := M_Tk_byteAt) (pc := 15) (k := 1) h15) ?_
  refine ac (s_bald (M := M_Tk_byteAt) (pc := 16) h16) ?_
  refine ac (s_sipush (M := M_Tk_byteAt) (pc := 17) h17 (by decide)) ?_
  refine ac (s_iand (M := M_Tk_byteAt) (pc := 20) h20) ?_
  refine ac (s_iret (M := M_Tk_byteAt) (pc := 21) h21 rfl) ?_
  exact ac_nil
theorem e0_Tk_isLetter : decode prog_8_method_16_code 0 = .ok (.iload_n 0, 1) ∧ decode prog_8_method_16_code 1 = .ok (.bipush 97, 2) ∧ decode prog_8_method_16_code 3 = .ok (.if_icmp .lt 13, 3) ∧ decode prog_8_method_16_code 6 = .ok (.iload_n 0, 1) ∧ decode prog_8_method_16_code 7 = .ok (.bipush 122, 2) ∧ decode prog_8_method_16_code 9 = .ok (.if_icmp .gt 7, 3) ∧ decode prog_8_method_16_code 12 = .ok (.iconst 1, 1) ∧ decode prog_8_method_16_code 13 = .ok (.goto 4, 3) ∧ decode prog_8_method_16_code 16 = .ok (.iconst 0, 1) ∧ decode prog_8_method_16_code 17 = .ok (.ireturn, 1) := by decide +kernel
def T_Tk_isLetter : TT := [(0, o_ild 0 1), (1, o_push (.int (iI (97))) 3), (3, o_icmp_lt 16 6), (6, o_ild 0 7), (7, o_push (.int (iI (122))) 9), (9, o_icmp_gt 16 12), (12, o_push (.int (iI (1))) 13), (13, o_goto 17), (16, o_push (.int (iI (0))) 17), (17, o_zret)]
theorem k_Tk_isLetter : ∀ x ∈ T_Tk_isLetter, SO M_Tk_isLetter x.1 x.2 := by
  obtain ⟨h0, h1, h3, h6, h7, h9, h12, h13, h16, h17⟩ := e0_Tk_isLetter
  refine ac (s_ildn (M := M_Tk_isLetter) (pc := 0) (k := 0) h0) ?_
  refine ac (s_bipush (M := M_Tk_isLetter) (pc := 1) h1 (by decide)) ?_
  refine ac (s_icmp_lt (M := M_Tk_isLetter) (pc := 3) h3 (by decide)) ?_
  refine ac (s_ildn (M := M_Tk_isLetter) (pc := 6) (k := 0) h6) ?_
  refine ac (s_bipush (M := M_Tk_isLetter) (pc := 7) h7 (by decide)) ?_
  refine ac (s_icmp_gt (M := M_Tk_isLetter) (pc := 9) h9 (by decide)) ?_
  refine ac (s_iconst (M := M_Tk_isLetter) (pc := 12) h12 rfl) ?_
  refine ac (s_goto (M := M_Tk_isLetter) (pc := 13) h13 (by decide)) ?_
  refine ac (s_iconst (M := M_Tk_isLetter) (pc := 16) h16 rfl) ?_
  refine ac (s_zret (M := M_Tk_isLetter) (pc := 17) h17 rfl) ?_
  exact ac_nil
theorem e0_Tk_readWord : decode prog_8_method_11_code 0 = .ok (.iload_n 2, 1) ∧ decode prog_8_method_11_code 1 = .ok (.istore 4, 2) ∧ decode prog_8_method_11_code 3 = .ok (.iload 4, 2) ∧ decode prog_8_method_11_code 5 = .ok (.iload_n 3, 1) ∧ decode prog_8_method_11_code 6 = .ok (.if_icmp .ge 21, 3) ∧ decode prog_8_method_11_code 9 = .ok (.aload_n 1, 1) ∧ decode prog_8_method_11_code 10 = .ok (.iload 4, 2) ∧ decode prog_8_method_11_code 12 = .ok (.invokestatic 56, 3) ∧ decode prog_8_method_11_code 15 = .ok (.invokestatic 60, 3) ∧ decode prog_8_method_11_code 18 = .ok (.ifCond .eq 9, 3) ∧ decode prog_8_method_11_code 21 = .ok (.iinc 4 1, 3) ∧ decode prog_8_method_11_code 24 = .ok (.goto (-21), 3) := by decide +kernel
theorem e1_Tk_readWord : decode prog_8_method_11_code 27 = .ok (.aload_n 1, 1) ∧ decode prog_8_method_11_code 28 = .ok (.iload_n 2, 1) ∧ decode prog_8_method_11_code 29 = .ok (.invokestatic 56, 3) ∧ decode prog_8_method_11_code 32 = .ok (.bipush 97, 2) ∧ decode prog_8_method_11_code 34 = .ok (.isub, 1) ∧ decode prog_8_method_11_code 35 = .ok (.istore 5, 2) ∧ decode prog_8_method_11_code 37 = .ok (.iload 4, 2) ∧ decode prog_8_method_11_code 39 = .ok (.iload_n 2, 1) ∧ decode prog_8_method_11_code 40 = .ok (.isub, 1) ∧ decode prog_8_method_11_code 41 = .ok (.iconst 1, 1) ∧ decode prog_8_method_11_code 42 = .ok (.if_icmp .ne 23, 3) ∧ decode prog_8_method_11_code 45 = .ok (.iload 5, 2) := by decide +kernel
theorem e2_Tk_readWord : decode prog_8_method_11_code 47 = .ok (.bipush 8, 2) ∧ decode prog_8_method_11_code 49 = .ok (.if_icmp .ge 16, 3) ∧ decode prog_8_method_11_code 52 = .ok (.aload_n 0, 1) ∧ decode prog_8_method_11_code 53 = .ok (.sipush 259, 3) ∧ decode prog_8_method_11_code 56 = .ok (.iload 5, 2) ∧ decode prog_8_method_11_code 58 = .ok (.iload_n 2, 1) ∧ decode prog_8_method_11_code 59 = .ok (.invokevirtual 38, 3) ∧ decode prog_8_method_11_code 62 = .ok (.goto 16, 3) ∧ decode prog_8_method_11_code 65 = .ok (.aload_n 0, 1) ∧ decode prog_8_method_11_code 66 = .ok (.aload_n 1, 1) ∧ decode prog_8_method_11_code 67 = .ok (.iload_n 2, 1) ∧ decode prog_8_method_11_code 68 = .ok (.iload 4, 2) := by decide +kernel
theorem e3_Tk_readWord : decode prog_8_method_11_code 70 = .ok (.invokestatic 80, 3) ∧ decode prog_8_method_11_code 73 = .ok (.iconst 0, 1) ∧ decode prog_8_method_11_code 74 = .ok (.iload_n 2, 1) ∧ decode prog_8_method_11_code 75 = .ok (.invokevirtual 38, 3) ∧ decode prog_8_method_11_code 78 = .ok (.iload 4, 2) ∧ decode prog_8_method_11_code 80 = .ok (.ireturn, 1) := by decide +kernel
def T_Tk_readWord : TT := [(0, o_ild 2 1), (1, o_ist 4 3), (3, o_ild 4 5), (5, o_ild 3 6), (6, o_icmp_ge 27 9), (9, o_ald 1 10), (10, o_ild 4 12), (12, o_call M_Tk_byteAt 2 15), (15, o_call M_Tk_isLetter 1 18), (18, o_if_eq 27 21), (21, o_iinc 4 (iI (1)) 24), (24, o_goto 3), (27, o_ald 1 28), (28, o_ild 2 29), (29, o_call M_Tk_byteAt 2 32), (32, o_push (.int (iI (97))) 34), (34, o_isub 35), (35, o_ist 5 37), (37, o_ild 4 39), (39, o_ild 2 40), (40, o_isub 41), (41, o_push (.int (iI (1))) 42), (42, o_icmp_ne 65 45), (45, o_ild 5 47), (47, o_push (.int (iI (8))) 49), (49, o_icmp_ge 65 52), (52, o_ald 0 53), (53, o_push (.int (iI (259))) 56), (56, o_ild 5 58), (58, o_ild 2 59), (59, o_callV M_Tk_add 4 4 62), (62, o_goto 78), (65, o_ald 0 66), (66, o_ald 1 67), (67, o_ild 2 68), (68, o_ild 4 70), (70, o_call M_Tk_wordKind 3 73), (73, o_push (.int (iI (0))) 74), (74, o_ild 2 75), (75, o_callV M_Tk_add 4 4 78), (78, o_ild 4 80), (80, o_iret)]
theorem k_Tk_readWord : ∀ x ∈ T_Tk_readWord, SO M_Tk_readWord x.1 x.2 := by
  obtain ⟨h0, h1, h3, h5, h6, h9, h10, h12, h15, h18, h21, h24⟩ := e0_Tk_readWord
  obtain ⟨h27, h28, h29, h32, h34, h35, h37, h39, h40, h41, h42, h45⟩ := e1_Tk_readWord
  obtain ⟨h47, h49, h52, h53, h56, h58, h59, h62, h65, h66, h67, h68⟩ := e2_Tk_readWord
  obtain ⟨h70, h73, h74, h75, h78, h80⟩ := e3_Tk_readWord
  refine ac (s_ildn (M := M_Tk_readWord) (pc := 0) (k := 2) h0) ?_
  refine ac (s_ist (M := M_Tk_readWord) (pc := 1) h1 (by decide)) ?_
  refine ac (s_ild (M := M_Tk_readWord) (pc := 3) h3) ?_
  refine ac (s_ildn (M := M_Tk_readWord) (pc := 5) (k := 3) h5) ?_
  refine ac (s_icmp_ge (M := M_Tk_readWord) (pc := 6) h6 (by decide)) ?_
  refine ac (s_aldn (M := M_Tk_readWord) (pc := 9) (k := 1) h9) ?_
  refine ac (s_ild (M := M_Tk_readWord) (pc := 10) h10) ?_
  refine ac (s_callS (M := M_Tk_readWord) (pc := 12) (tz_Tk rfl) h12 q_Tk_byteAt wd742 wd743) ?_
  refine ac (s_callS (M := M_Tk_readWord) (pc := 15) (tz_Tk rfl) h15 q_Tk_isLetter wd745 wd746) ?_
  refine ac (s_if_eq (M := M_Tk_readWord) (pc := 18) h18 (by decide)) ?_
  refine ac (s_iinc (M := M_Tk_readWord) (pc := 21) h21 rfl (by decide)) ?_
  refine ac (s_goto (M := M_Tk_readWord) (pc := 24) h24 (by decide)) ?_
  refine ac (s_aldn (M := M_Tk_readWord) (pc := 27) (k := 1) h27) ?_
  refine ac (s_ildn (M := M_Tk_readWord) (pc := 28) (k := 2) h28) ?_
  refine ac (s_callS (M := M_Tk_readWord) (pc := 29) (tz_Tk rfl) h29 q_Tk_byteAt wd742 wd743) ?_
  refine ac (s_bipush (M := M_Tk_readWord) (pc := 32) h32 (by decide)) ?_
  refine ac (s_isub (M := M_Tk_readWord) (pc := 34) h34) ?_
  refine ac (s_ist (M := M_Tk_readWord) (pc := 35) h35 (by decide)) ?_
  refine ac (s_ild (M := M_Tk_readWord) (pc := 37) h37) ?_
  refine ac (s_ildn (M := M_Tk_readWord) (pc := 39) (k := 2) h39) ?_
  refine ac (s_isub (M := M_Tk_readWord) (pc := 40) h40) ?_
  refine ac (s_iconst (M := M_Tk_readWord) (pc := 41) h41 rfl) ?_
  refine ac (s_icmp_ne (M := M_Tk_readWord) (pc := 42) h42 (by decide)) ?_
  refine ac (s_ild (M := M_Tk_readWord) (pc := 45) h45) ?_
  refine ac (s_bipush (M := M_Tk_readWord) (pc := 47) h47 (by decide)) ?_
  refine ac (s_icmp_ge (M := M_Tk_readWord) (pc := 49) h49 (by decide)) ?_
  refine ac (s_aldn (M := M_Tk_readWord) (pc := 52) (k := 0) h52) ?_
  refine ac (s_sipush (M := M_Tk_readWord) (pc := 53) h53 (by decide)) ?_
  refine ac (s_ild (M := M_Tk_readWord) (pc := 56) h56) ?_
  refine ac (s_ildn (M := M_Tk_readWord) (pc := 58) (k := 2) h58) ?_
  refine ac (s_callV (M := M_Tk_readWord) (pc := 59) (tz_Tk rfl) h59 q_Tk_add wd752 wd754 wd9 rfl (T := TX6) (N := 7) rfl) ?_
  refine ac (s_goto (M := M_Tk_readWord) (pc := 62) h62 (by decide)) ?_
  refine ac (s_aldn (M := M_Tk_readWord) (pc := 65) (k := 0) h65) ?_
  refine ac (s_aldn (M := M_Tk_readWord) (pc := 66) (k := 1) h66) ?_
  refine ac (s_ildn (M := M_Tk_readWord) (pc := 67) (k := 2) h67) ?_
  refine ac (s_ild (M := M_Tk_readWord) (pc := 68) h68) ?_
  refine ac (s_callS (M := M_Tk_readWord) (pc := 70) (tz_Tk rfl) h70 q_Tk_wordKind wd756 wd757) ?_
  refine ac (s_iconst (M := M_Tk_readWord) (pc := 73) h73 rfl) ?_
  refine ac (s_ildn (M := M_Tk_readWord) (pc := 74) (k := 2) h74) ?_
  refine ac (s_callV (M := M_Tk_readWord) (pc := 75) (tz_Tk rfl) h75 q_Tk_add wd752 wd754 wd9 rfl (T := TX6) (N := 7) rfl) ?_
  refine ac (s_ild (M := M_Tk_readWord) (pc := 78) h78) ?_
  refine ac (s_iret (M := M_Tk_readWord) (pc := 80) h80 rfl) ?_
  exact ac_nil
theorem e0_Tk_add : decode prog_8_method_9_code 0 = .ok (.aload_n 0, 1) ∧ decode prog_8_method_9_code 1 = .ok (.getfield 28, 3) ∧ decode prog_8_method_9_code 4 = .ok (.ifCond .lt 79, 3) ∧ decode prog_8_method_9_code 7 = .ok (.aload_n 0, 1) ∧ decode prog_8_method_9_code 8 = .ok (.getfield 28, 3) ∧ decode prog_8_method_9_code 11 = .ok (.aload_n 0, 1) ∧ decode prog_8_method_9_code 12 = .ok (.getfield 9, 3) ∧ decode prog_8_method_9_code 15 = .ok (.arraylength, 1) ∧ decode prog_8_method_9_code 16 = .ok (.if_icmp .ge 67, 3) ∧ decode prog_8_method_9_code 19 = .ok (.aload_n 0, 1) ∧ decode prog_8_method_9_code 20 = .ok (.getfield 28, 3) ∧ decode prog_8_method_9_code 23 = .ok (.aload_n 0, 1) := by decide +kernel
theorem e1_Tk_add : decode prog_8_method_9_code 24 = .ok (.getfield 15, 3) ∧ decode prog_8_method_9_code 27 = .ok (.arraylength, 1) ∧ decode prog_8_method_9_code 28 = .ok (.if_icmp .ge 55, 3) ∧ decode prog_8_method_9_code 31 = .ok (.aload_n 0, 1) ∧ decode prog_8_method_9_code 32 = .ok (.getfield 28, 3) ∧ decode prog_8_method_9_code 35 = .ok (.aload_n 0, 1) ∧ decode prog_8_method_9_code 36 = .ok (.getfield 18, 3) ∧ decode prog_8_method_9_code 39 = .ok (.arraylength, 1) ∧ decode prog_8_method_9_code 40 = .ok (.if_icmp .ge 43, 3) ∧ decode prog_8_method_9_code 43 = .ok (.aload_n 0, 1) ∧ decode prog_8_method_9_code 44 = .ok (.getfield 9, 3) ∧ decode prog_8_method_9_code 47 = .ok (.aload_n 0, 1) := by decide +kernel
theorem e2_Tk_add : decode prog_8_method_9_code 48 = .ok (.getfield 28, 3) ∧ decode prog_8_method_9_code 51 = .ok (.iload_n 1, 1) ∧ decode prog_8_method_9_code 52 = .ok (.iastore, 1) ∧ decode prog_8_method_9_code 53 = .ok (.aload_n 0, 1) ∧ decode prog_8_method_9_code 54 = .ok (.getfield 15, 3) ∧ decode prog_8_method_9_code 57 = .ok (.aload_n 0, 1) ∧ decode prog_8_method_9_code 58 = .ok (.getfield 28, 3) ∧ decode prog_8_method_9_code 61 = .ok (.iload_n 2, 1) ∧ decode prog_8_method_9_code 62 = .ok (.iastore, 1) ∧ decode prog_8_method_9_code 63 = .ok (.aload_n 0, 1) ∧ decode prog_8_method_9_code 64 = .ok (.getfield 18, 3) ∧ decode prog_8_method_9_code 67 = .ok (.aload_n 0, 1) := by decide +kernel
theorem e3_Tk_add : decode prog_8_method_9_code 68 = .ok (.getfield 28, 3) ∧ decode prog_8_method_9_code 71 = .ok (.iload_n 3, 1) ∧ decode prog_8_method_9_code 72 = .ok (.iastore, 1) ∧ decode prog_8_method_9_code 73 = .ok (.aload_n 0, 1) ∧ decode prog_8_method_9_code 74 = .ok (.dup, 1) ∧ decode prog_8_method_9_code 75 = .ok (.getfield 28, 3) ∧ decode prog_8_method_9_code 78 = .ok (.iconst 1, 1) ∧ decode prog_8_method_9_code 79 = .ok (.iadd, 1) ∧ decode prog_8_method_9_code 80 = .ok (.putfield 28, 3) ∧ decode prog_8_method_9_code 83 = .ok (.return_, 1) := by decide +kernel
def T_Tk_add : TT := [(0, o_ald 0 1), (1, o_get 4 3 4), (4, o_if_lt 83 7), (7, o_ald 0 8), (8, o_get 4 3 11), (11, o_ald 0 12), (12, o_get 4 0 15), (15, o_alen 16), (16, o_icmp_ge 83 19), (19, o_ald 0 20), (20, o_get 4 3 23), (23, o_ald 0 24), (24, o_get 4 1 27), (27, o_alen 28), (28, o_icmp_ge 83 31), (31, o_ald 0 32), (32, o_get 4 3 35), (35, o_ald 0 36), (36, o_get 4 2 39), (39, o_alen 40), (40, o_icmp_ge 83 43), (43, o_ald 0 44), (44, o_get 4 0 47), (47, o_ald 0 48), (48, o_get 4 3 51), (51, o_ild 1 52), (52, o_iast 53), (53, o_ald 0 54), (54, o_get 4 1 57), (57, o_ald 0 58), (58, o_get 4 3 61), (61, o_ild 2 62), (62, o_iast 63), (63, o_ald 0 64), (64, o_get 4 2 67), (67, o_ald 0 68), (68, o_get 4 3 71), (71, o_ild 3 72), (72, o_iast 73), (73, o_ald 0 74), (74, o_dup 75), (75, o_get 4 3 78), (78, o_push (.int (iI (1))) 79), (79, o_iadd 80), (80, o_puti 4 3 83), (83, o_vret)]
theorem k_Tk_add : ∀ x ∈ T_Tk_add, SO M_Tk_add x.1 x.2 := by
  obtain ⟨h0, h1, h4, h7, h8, h11, h12, h15, h16, h19, h20, h23⟩ := e0_Tk_add
  obtain ⟨h24, h27, h28, h31, h32, h35, h36, h39, h40, h43, h44, h47⟩ := e1_Tk_add
  obtain ⟨h48, h51, h52, h53, h54, h57, h58, h61, h62, h63, h64, h67⟩ := e2_Tk_add
  obtain ⟨h68, h71, h72, h73, h74, h75, h78, h79, h80, h83⟩ := e3_Tk_add
  refine ac (s_aldn (M := M_Tk_add) (pc := 0) (k := 0) h0) ?_
  refine ac (s_get (M := M_Tk_add) (pc := 1) (T := TX6) (N := 7) h1 rfl in_X6 (by decide) wd151) ?_
  refine ac (s_if_lt (M := M_Tk_add) (pc := 4) h4 (by decide)) ?_
  refine ac (s_aldn (M := M_Tk_add) (pc := 7) (k := 0) h7) ?_
  refine ac (s_get (M := M_Tk_add) (pc := 8) (T := TX6) (N := 7) h8 rfl in_X6 (by decide) wd151) ?_
  refine ac (s_aldn (M := M_Tk_add) (pc := 11) (k := 0) h11) ?_
  refine ac (s_get (M := M_Tk_add) (pc := 12) (T := TX6) (N := 7) h12 rfl in_X6 (by decide) wd148) ?_
  refine ac (s_alen (M := M_Tk_add) (pc := 15) h15) ?_
  refine ac (s_icmp_ge (M := M_Tk_add) (pc := 16) h16 (by decide)) ?_
  refine ac (s_aldn (M := M_Tk_add) (pc := 19) (k := 0) h19) ?_
  refine ac (s_get (M := M_Tk_add) (pc := 20) (T := TX6) (N := 7) h20 rfl in_X6 (by decide) wd151) ?_
  refine ac (s_aldn (M := M_Tk_add) (pc := 23) (k := 0) h23) ?_
  refine ac (s_get (M := M_Tk_add) (pc := 24) (T := TX6) (N := 7) h24 rfl in_X6 (by decide) wd149) ?_
  refine ac (s_alen (M := M_Tk_add) (pc := 27) h27) ?_
  refine ac (s_icmp_ge (M := M_Tk_add) (pc := 28) h28 (by decide)) ?_
  refine ac (s_aldn (M := M_Tk_add) (pc := 31) (k := 0) h31) ?_
  refine ac (s_get (M := M_Tk_add) (pc := 32) (T := TX6) (N := 7) h32 rfl in_X6 (by decide) wd151) ?_
  refine ac (s_aldn (M := M_Tk_add) (pc := 35) (k := 0) h35) ?_
  refine ac (s_get (M := M_Tk_add) (pc := 36) (T := TX6) (N := 7) h36 rfl in_X6 (by decide) wd150) ?_
  refine ac (s_alen (M := M_Tk_add) (pc := 39) h39) ?_
  refine ac (s_icmp_ge (M := M_Tk_add) (pc := 40) h40 (by decide)) ?_
  refine ac (s_aldn (M := M_Tk_add) (pc := 43) (k := 0) h43) ?_
  refine ac (s_get (M := M_Tk_add) (pc := 44) (T := TX6) (N := 7) h44 rfl in_X6 (by decide) wd148) ?_
  refine ac (s_aldn (M := M_Tk_add) (pc := 47) (k := 0) h47) ?_
  refine ac (s_get (M := M_Tk_add) (pc := 48) (T := TX6) (N := 7) h48 rfl in_X6 (by decide) wd151) ?_
  refine ac (s_ildn (M := M_Tk_add) (pc := 51) (k := 1) h51) ?_
  refine ac (s_iast (M := M_Tk_add) (pc := 52) h52) ?_
  refine ac (s_aldn (M := M_Tk_add) (pc := 53) (k := 0) h53) ?_
  refine ac (s_get (M := M_Tk_add) (pc := 54) (T := TX6) (N := 7) h54 rfl in_X6 (by decide) wd149) ?_
  refine ac (s_aldn (M := M_Tk_add) (pc := 57) (k := 0) h57) ?_
  refine ac (s_get (M := M_Tk_add) (pc := 58) (T := TX6) (N := 7) h58 rfl in_X6 (by decide) wd151) ?_
  refine ac (s_ildn (M := M_Tk_add) (pc := 61) (k := 2) h61) ?_
  refine ac (s_iast (M := M_Tk_add) (pc := 62) h62) ?_
  refine ac (s_aldn (M := M_Tk_add) (pc := 63) (k := 0) h63) ?_
  refine ac (s_get (M := M_Tk_add) (pc := 64) (T := TX6) (N := 7) h64 rfl in_X6 (by decide) wd150) ?_
  refine ac (s_aldn (M := M_Tk_add) (pc := 67) (k := 0) h67) ?_
  refine ac (s_get (M := M_Tk_add) (pc := 68) (T := TX6) (N := 7) h68 rfl in_X6 (by decide) wd151) ?_
  refine ac (s_ildn (M := M_Tk_add) (pc := 71) (k := 3) h71) ?_
  refine ac (s_iast (M := M_Tk_add) (pc := 72) h72) ?_
  refine ac (s_aldn (M := M_Tk_add) (pc := 73) (k := 0) h73) ?_
  refine ac (s_dup (M := M_Tk_add) (pc := 74) h74) ?_
  refine ac (s_get (M := M_Tk_add) (pc := 75) (T := TX6) (N := 7) h75 rfl in_X6 (by decide) wd151) ?_
  refine ac (s_iconst (M := M_Tk_add) (pc := 78) h78 rfl) ?_
  refine ac (s_iadd (M := M_Tk_add) (pc := 79) h79) ?_
  refine ac (s_puti (M := M_Tk_add) (pc := 80) (T := TX6) (N := 7) (ty0 := tyX6) h80 ⟨rfl, in_X6, by decide, wd151, tyX6_ok, nmX6, (Or.inl rfl)⟩ rfl) ?_
  refine ac (s_vret (M := M_Tk_add) (pc := 83) h83 rfl) ?_
  exact ac_nil
theorem e0_Tk_wordKind : decode prog_8_method_13_code 0 = .ok (.aload_n 0, 1) ∧ decode prog_8_method_13_code 1 = .ok (.iload_n 1, 1) ∧ decode prog_8_method_13_code 2 = .ok (.iload_n 2, 1) ∧ decode prog_8_method_13_code 3 = .ok (.ldc 83, 2) ∧ decode prog_8_method_13_code 5 = .ok (.invokestatic 85, 3) ∧ decode prog_8_method_13_code 8 = .ok (.ifCond .eq 7, 3) ∧ decode prog_8_method_13_code 11 = .ok (.sipush 260, 3) ∧ decode prog_8_method_13_code 14 = .ok (.ireturn, 1) ∧ decode prog_8_method_13_code 15 = .ok (.aload_n 0, 1) ∧ decode prog_8_method_13_code 16 = .ok (.iload_n 1, 1) ∧ decode prog_8_method_13_code 17 = .ok (.iload_n 2, 1) ∧ decode prog_8_method_13_code 18 = .ok (.ldc 89, 2) := by decide +kernel
theorem e1_Tk_wordKind : decode prog_8_method_13_code 20 = .ok (.invokestatic 85, 3) ∧ decode prog_8_method_13_code 23 = .ok (.ifCond .eq 7, 3) ∧ decode prog_8_method_13_code 26 = .ok (.sipush 261, 3) ∧ decode prog_8_method_13_code 29 = .ok (.ireturn, 1) ∧ decode prog_8_method_13_code 30 = .ok (.aload_n 0, 1) ∧ decode prog_8_method_13_code 31 = .ok (.iload_n 1, 1) ∧ decode prog_8_method_13_code 32 = .ok (.iload_n 2, 1) ∧ decode prog_8_method_13_code 33 = .ok (.ldc 91, 2) ∧ decode prog_8_method_13_code 35 = .ok (.invokestatic 85, 3) ∧ decode prog_8_method_13_code 38 = .ok (.ifCond .eq 7, 3) ∧ decode prog_8_method_13_code 41 = .ok (.sipush 262, 3) ∧ decode prog_8_method_13_code 44 = .ok (.ireturn, 1) := by decide +kernel
theorem e2_Tk_wordKind : decode prog_8_method_13_code 45 = .ok (.aload_n 0, 1) ∧ decode prog_8_method_13_code 46 = .ok (.iload_n 1, 1) ∧ decode prog_8_method_13_code 47 = .ok (.iload_n 2, 1) ∧ decode prog_8_method_13_code 48 = .ok (.ldc 93, 2) ∧ decode prog_8_method_13_code 50 = .ok (.invokestatic 85, 3) ∧ decode prog_8_method_13_code 53 = .ok (.ifCond .eq 7, 3) ∧ decode prog_8_method_13_code 56 = .ok (.sipush 263, 3) ∧ decode prog_8_method_13_code 59 = .ok (.ireturn, 1) ∧ decode prog_8_method_13_code 60 = .ok (.aload_n 0, 1) ∧ decode prog_8_method_13_code 61 = .ok (.iload_n 1, 1) ∧ decode prog_8_method_13_code 62 = .ok (.iload_n 2, 1) ∧ decode prog_8_method_13_code 63 = .ok (.ldc 95, 2) := by decide +kernel
theorem e3_Tk_wordKind : decode prog_8_method_13_code 65 = .ok (.invokestatic 85, 3) ∧ decode prog_8_method_13_code 68 = .ok (.ifCond .eq 7, 3) ∧ decode prog_8_method_13_code 71 = .ok (.sipush 264, 3) ∧ decode prog_8_method_13_code 74 = .ok (.ireturn, 1) ∧ decode prog_8_method_13_code 75 = .ok (.aload_n 0, 1) ∧ decode prog_8_method_13_code 76 = .ok (.iload_n 1, 1) ∧ decode prog_8_method_13_code 77 = .ok (.iload_n 2, 1) ∧ decode prog_8_method_13_code 78 = .ok (.ldc 97, 2) ∧ decode prog_8_method_13_code 80 = .ok (.invokestatic 85, 3) ∧ decode prog_8_method_13_code 83 = .ok (.ifCond .eq 7, 3) ∧ decode prog_8_method_13_code 86 = .ok (.sipush 265, 3) ∧ decode prog_8_method_13_code 89 = .ok (.ireturn, 1) := by decide +kernel
theorem e4_Tk_wordKind : decode prog_8_method_13_code 90 = .ok (.aload_n 0, 1) ∧ decode prog_8_method_13_code 91 = .ok (.iload_n 1, 1) ∧ decode prog_8_method_13_code 92 = .ok (.iload_n 2, 1) ∧ decode prog_8_method_13_code 93 = .ok (.ldc 99, 2) ∧ decode prog_8_method_13_code 95 = .ok (.invokestatic 85, 3) ∧ decode prog_8_method_13_code 98 = .ok (.ifCond .eq 9, 3) ∧ decode prog_8_method_13_code 101 = .ok (.sipush 266, 3) ∧ decode prog_8_method_13_code 104 = .ok (.goto 6, 3) ∧ decode prog_8_method_13_code 107 = .ok (.sipush 257, 3) ∧ decode prog_8_method_13_code 110 = .ok (.ireturn, 1) := by decide +kernel
def T_Tk_wordKind : TT := [(0, o_ald 0 1), (1, o_ild 1 2), (2, o_ild 2 3), (3, o_push (.ref 1001) 5), (5, o_call M_Tk_isWord 4 8), (8, o_if_eq 15 11), (11, o_push (.int (iI (260))) 14), (14, o_iret), (15, o_ald 0 16), (16, o_ild 1 17), (17, o_ild 2 18), (18, o_push (.ref 1002) 20), (20, o_call M_Tk_isWord 4 23), (23, o_if_eq 30 26), (26, o_push (.int (iI (261))) 29), (29, o_iret), (30, o_ald 0 31), (31, o_ild 1 32), (32, o_ild 2 33), (33, o_push (.ref 1003) 35), (35, o_call M_Tk_isWord 4 38), (38, o_if_eq 45 41), (41, o_push (.int (iI (262))) 44), (44, o_iret), (45, o_ald 0 46), (46, o_ild 1 47), (47, o_ild 2 48), (48, o_push (.ref 1004) 50), (50, o_call M_Tk_isWord 4 53), (53, o_if_eq 60 56), (56, o_push (.int (iI (263))) 59), (59, o_iret), (60, o_ald 0 61), (61, o_ild 1 62), (62, o_ild 2 63), (63, o_push (.ref 1005) 65), (65, o_call M_Tk_isWord 4 68), (68, o_if_eq 75 71), (71, o_push (.int (iI (264))) 74), (74, o_iret), (75, o_ald 0 76), (76, o_ild 1 77), (77, o_ild 2 78), (78, o_push (.ref 1006) 80), (80, o_call M_Tk_isWord 4 83), (83, o_if_eq 90 86), (86, o_push (.int (iI (265))) 89), (89, o_iret), (90, o_ald 0 91), (91, o_ild 1 92), (92, o_ild 2 93), (93, o_push (.ref 1007) 95), (95, o_call M_Tk_isWord 4 98), (98, o_if_eq 107 101), (101, o_push (.int (iI (266))) 104), (104, o_goto 110), (107, o_push (.int (iI (257))) 110), (110, o_iret)]
theorem k_Tk_wordKind : ∀ x ∈ T_Tk_wordKind, SO M_Tk_wordKind x.1 x.2 := by
  obtain ⟨h0, h1, h2, h3, h5, h8, h11, h14, h15, h16, h17, h18⟩ := e0_Tk_wordKind
  obtain ⟨h20, h23, h26, h29, h30, h31, h32, h33, h35, h38, h41, h44⟩ := e1_Tk_wordKind
  obtain ⟨h45, h46, h47, h48, h50, h53, h56, h59, h60, h61, h62, h63⟩ := e2_Tk_wordKind
  obtain ⟨h65, h68, h71, h74, h75, h76, h77, h78, h80, h83, h86, h89⟩ := e3_Tk_wordKind
  obtain ⟨h90, h91, h92, h93, h95, h98, h101, h104, h107, h110⟩ := e4_Tk_wordKind
  refine ac (s_aldn (M := M_Tk_wordKind) (pc := 0) (k := 0) h0) ?_
  refine ac (s_ildn (M := M_Tk_wordKind) (pc := 1) (k := 1) h1) ?_
  refine ac (s_ildn (M := M_Tk_wordKind) (pc := 2) (k := 2) h2) ?_
  refine ac (s_ldcS (M := M_Tk_wordKind) (pc := 3) (i := 1) h3 rfl) ?_
  refine ac (s_callS (M := M_Tk_wordKind) (pc := 5) (tz_Tk rfl) h5 q_Tk_isWord wd760 wd761) ?_
  refine ac (s_if_eq (M := M_Tk_wordKind) (pc := 8) h8 (by decide)) ?_
  refine ac (s_sipush (M := M_Tk_wordKind) (pc := 11) h11 (by decide)) ?_
  refine ac (s_iret (M := M_Tk_wordKind) (pc := 14) h14 rfl) ?_
  refine ac (s_aldn (M := M_Tk_wordKind) (pc := 15) (k := 0) h15) ?_
  refine ac (s_ildn (M := M_Tk_wordKind) (pc := 16) (k := 1) h16) ?_
  refine ac (s_ildn (M := M_Tk_wordKind) (pc := 17) (k := 2) h17) ?_
  refine ac (s_ldcS (M := M_Tk_wordKind) (pc := 18) (i := 2) h18 rfl) ?_
  refine ac (s_callS (M := M_Tk_wordKind) (pc := 20) (tz_Tk rfl) h20 q_Tk_isWord wd760 wd761) ?_
  refine ac (s_if_eq (M := M_Tk_wordKind) (pc := 23) h23 (by decide)) ?_
  refine ac (s_sipush (M := M_Tk_wordKind) (pc := 26) h26 (by decide)) ?_
  refine ac (s_iret (M := M_Tk_wordKind) (pc := 29) h29 rfl) ?_
  refine ac (s_aldn (M := M_Tk_wordKind) (pc := 30) (k := 0) h30) ?_
  refine ac (s_ildn (M := M_Tk_wordKind) (pc := 31) (k := 1) h31) ?_
  refine ac (s_ildn (M := M_Tk_wordKind) (pc := 32) (k := 2) h32) ?_
  refine ac (s_ldcS (M := M_Tk_wordKind) (pc := 33) (i := 3) h33 rfl) ?_
  refine ac (s_callS (M := M_Tk_wordKind) (pc := 35) (tz_Tk rfl) h35 q_Tk_isWord wd760 wd761) ?_
  refine ac (s_if_eq (M := M_Tk_wordKind) (pc := 38) h38 (by decide)) ?_
  refine ac (s_sipush (M := M_Tk_wordKind) (pc := 41) h41 (by decide)) ?_
  refine ac (s_iret (M := M_Tk_wordKind) (pc := 44) h44 rfl) ?_
  refine ac (s_aldn (M := M_Tk_wordKind) (pc := 45) (k := 0) h45) ?_
  refine ac (s_ildn (M := M_Tk_wordKind) (pc := 46) (k := 1) h46) ?_
  refine ac (s_ildn (M := M_Tk_wordKind) (pc := 47) (k := 2) h47) ?_
  refine ac (s_ldcS (M := M_Tk_wordKind) (pc := 48) (i := 4) h48 rfl) ?_
  refine ac (s_callS (M := M_Tk_wordKind) (pc := 50) (tz_Tk rfl) h50 q_Tk_isWord wd760 wd761) ?_
  refine ac (s_if_eq (M := M_Tk_wordKind) (pc := 53) h53 (by decide)) ?_
  refine ac (s_sipush (M := M_Tk_wordKind) (pc := 56) h56 (by decide)) ?_
  refine ac (s_iret (M := M_Tk_wordKind) (pc := 59) h59 rfl) ?_
  refine ac (s_aldn (M := M_Tk_wordKind) (pc := 60) (k := 0) h60) ?_
  refine ac (s_ildn (M := M_Tk_wordKind) (pc := 61) (k := 1) h61) ?_
  refine ac (s_ildn (M := M_Tk_wordKind) (pc := 62) (k := 2) h62) ?_
  refine ac (s_ldcS (M := M_Tk_wordKind) (pc := 63) (i := 5) h63 rfl) ?_
  refine ac (s_callS (M := M_Tk_wordKind) (pc := 65) (tz_Tk rfl) h65 q_Tk_isWord wd760 wd761) ?_
  refine ac (s_if_eq (M := M_Tk_wordKind) (pc := 68) h68 (by decide)) ?_
  refine ac (s_sipush (M := M_Tk_wordKind) (pc := 71) h71 (by decide)) ?_
  refine ac (s_iret (M := M_Tk_wordKind) (pc := 74) h74 rfl) ?_
  refine ac (s_aldn (M := M_Tk_wordKind) (pc := 75) (k := 0) h75) ?_
  refine ac (s_ildn (M := M_Tk_wordKind) (pc := 76) (k := 1) h76) ?_
  refine ac (s_ildn (M := M_Tk_wordKind) (pc := 77) (k := 2) h77) ?_
  refine ac (s_ldcS (M := M_Tk_wordKind) (pc := 78) (i := 6) h78 rfl) ?_
  refine ac (s_callS (M := M_Tk_wordKind) (pc := 80) (tz_Tk rfl) h80 q_Tk_isWord wd760 wd761) ?_
  refine ac (s_if_eq (M := M_Tk_wordKind) (pc := 83) h83 (by decide)) ?_
  refine ac (s_sipush (M := M_Tk_wordKind) (pc := 86) h86 (by decide)) ?_
  refine ac (s_iret (M := M_Tk_wordKind) (pc := 89) h89 rfl) ?_
  refine ac (s_aldn (M := M_Tk_wordKind) (pc := 90) (k := 0) h90) ?_
  refine ac (s_ildn (M := M_Tk_wordKind) (pc := 91) (k := 1) h91) ?_
  refine ac (s_ildn (M := M_Tk_wordKind) (pc := 92) (k := 2) h92) ?_
  refine ac (s_ldcS (M := M_Tk_wordKind) (pc := 93) (i := 7) h93 rfl) ?_
  refine ac (s_callS (M := M_Tk_wordKind) (pc := 95) (tz_Tk rfl) h95 q_Tk_isWord wd760 wd761) ?_
  refine ac (s_if_eq (M := M_Tk_wordKind) (pc := 98) h98 (by decide)) ?_
  refine ac (s_sipush (M := M_Tk_wordKind) (pc := 101) h101 (by decide)) ?_
  refine ac (s_goto (M := M_Tk_wordKind) (pc := 104) h104 (by decide)) ?_
  refine ac (s_sipush (M := M_Tk_wordKind) (pc := 107) h107 (by decide)) ?_
  refine ac (s_iret (M := M_Tk_wordKind) (pc := 110) h110 rfl) ?_
  exact ac_nil
theorem e0_Tk_isDigit : decode prog_8_method_17_code 0 = .ok (.iload_n 0, 1) ∧ decode prog_8_method_17_code 1 = .ok (.bipush 48, 2) ∧ decode prog_8_method_17_code 3 = .ok (.if_icmp .lt 13, 3) ∧ decode prog_8_method_17_code 6 = .ok (.iload_n 0, 1) ∧ decode prog_8_method_17_code 7 = .ok (.bipush 57, 2) ∧ decode prog_8_method_17_code 9 = .ok (.if_icmp .gt 7, 3) ∧ decode prog_8_method_17_code 12 = .ok (.iconst 1, 1) ∧ decode prog_8_method_17_code 13 = .ok (.goto 4, 3) ∧ decode prog_8_method_17_code 16 = .ok (.iconst 0, 1) ∧ decode prog_8_method_17_code 17 = .ok (.ireturn, 1) := by decide +kernel
def T_Tk_isDigit : TT := [(0, o_ild 0 1), (1, o_push (.int (iI (48))) 3), (3, o_icmp_lt 16 6), (6, o_ild 0 7), (7, o_push (.int (iI (57))) 9), (9, o_icmp_gt 16 12), (12, o_push (.int (iI (1))) 13), (13, o_goto 17), (16, o_push (.int (iI (0))) 17), (17, o_zret)]
theorem k_Tk_isDigit : ∀ x ∈ T_Tk_isDigit, SO M_Tk_isDigit x.1 x.2 := by
  obtain ⟨h0, h1, h3, h6, h7, h9, h12, h13, h16, h17⟩ := e0_Tk_isDigit
  refine ac (s_ildn (M := M_Tk_isDigit) (pc := 0) (k := 0) h0) ?_
  refine ac (s_bipush (M := M_Tk_isDigit) (pc := 1) h1 (by decide)) ?_
  refine ac (s_icmp_lt (M := M_Tk_isDigit) (pc := 3) h3 (by decide)) ?_
  refine ac (s_ildn (M := M_Tk_isDigit) (pc := 6) (k := 0) h6) ?_
  refine ac (s_bipush (M := M_Tk_isDigit) (pc := 7) h7 (by decide)) ?_
  refine ac (s_icmp_gt (M := M_Tk_isDigit) (pc := 9) h9 (by decide)) ?_
  refine ac (s_iconst (M := M_Tk_isDigit) (pc := 12) h12 rfl) ?_
  refine ac (s_goto (M := M_Tk_isDigit) (pc := 13) h13 (by decide)) ?_
  refine ac (s_iconst (M := M_Tk_isDigit) (pc := 16) h16 rfl) ?_
  refine ac (s_zret (M := M_Tk_isDigit) (pc := 17) h17 rfl) ?_
  exact ac_nil
theorem e0_Tk_readNumeral : decode prog_8_method_12_code 0 = .ok (.iload_n 2, 1) ∧ decode prog_8_method_12_code 1 = .ok (.istore 4, 2) ∧ decode prog_8_method_12_code 3 = .ok (.iconst 0, 1) ∧ decode prog_8_method_12_code 4 = .ok (.istore 5, 2) ∧ decode prog_8_method_12_code 6 = .ok (.iload 4, 2) ∧ decode prog_8_method_12_code 8 = .ok (.iload_n 3, 1) ∧ decode prog_8_method_12_code 9 = .ok (.if_icmp .ge 47, 3) ∧ decode prog_8_method_12_code 12 = .ok (.aload_n 1, 1) ∧ decode prog_8_method_12_code 13 = .ok (.iload 4, 2) ∧ decode prog_8_method_12_code 15 = .ok (.invokestatic 56, 3) ∧ decode prog_8_method_12_code 18 = .ok (.invokestatic 66, 3) ∧ decode prog_8_method_12_code 21 = .ok (.ifCond .eq 35, 3) := by decide +kernel
theorem e1_Tk_readNumeral : decode prog_8_method_12_code 24 = .ok (.iload 4, 2) ∧ decode prog_8_method_12_code 26 = .ok (.iload_n 2, 1) ∧ decode prog_8_method_12_code 27 = .ok (.isub, 1) ∧ decode prog_8_method_12_code 28 = .ok (.bipush 9, 2) ∧ decode prog_8_method_12_code 30 = .ok (.if_icmp .ge 20, 3) ∧ decode prog_8_method_12_code 33 = .ok (.iload 5, 2) ∧ decode prog_8_method_12_code 35 = .ok (.bipush 10, 2) ∧ decode prog_8_method_12_code 37 = .ok (.imul, 1) ∧ decode prog_8_method_12_code 38 = .ok (.aload_n 1, 1) ∧ decode prog_8_method_12_code 39 = .ok (.iload 4, 2) ∧ decode prog_8_method_12_code 41 = .ok (.invokestatic 56, 3) ∧ decode prog_8_method_12_code 44 = .ok (.iadd, 1) := by decide +kernel
theorem e2_Tk_readNumeral : decode prog_8_method_12_code 45 = .ok (.bipush 48, 2) ∧ decode prog_8_method_12_code 47 = .ok (.isub, 1) ∧ decode prog_8_method_12_code 48 = .ok (.istore 5, 2) ∧ decode prog_8_method_12_code 50 = .ok (.iinc 4 1, 3) ∧ decode prog_8_method_12_code 53 = .ok (.goto (-47), 3) ∧ decode prog_8_method_12_code 56 = .ok (.aload_n 0, 1) ∧ decode prog_8_method_12_code 57 = .ok (.iload 4, 2) ∧ decode prog_8_method_12_code 59 = .ok (.iload_n 2, 1) ∧ decode prog_8_method_12_code 60 = .ok (.isub, 1) ∧ decode prog_8_method_12_code 61 = .ok (.bipush 9, 2) ∧ decode prog_8_method_12_code 63 = .ok (.if_icmp .gt 9, 3) ∧ decode prog_8_method_12_code 66 = .ok (.sipush 258, 3) := by decide +kernel
theorem e3_Tk_readNumeral : decode prog_8_method_12_code 69 = .ok (.goto 6, 3) ∧ decode prog_8_method_12_code 72 = .ok (.sipush 257, 3) ∧ decode prog_8_method_12_code 75 = .ok (.iload 5, 2) ∧ decode prog_8_method_12_code 77 = .ok (.iload_n 2, 1) ∧ decode prog_8_method_12_code 78 = .ok (.invokevirtual 38, 3) ∧ decode prog_8_method_12_code 81 = .ok (.iload 4, 2) ∧ decode prog_8_method_12_code 83 = .ok (.ireturn, 1) := by decide +kernel
def T_Tk_readNumeral : TT := [(0, o_ild 2 1), (1, o_ist 4 3), (3, o_push (.int (iI (0))) 4), (4, o_ist 5 6), (6, o_ild 4 8), (8, o_ild 3 9), (9, o_icmp_ge 56 12), (12, o_ald 1 13), (13, o_ild 4 15), (15, o_call M_Tk_byteAt 2 18), (18, o_call M_Tk_isDigit 1 21), (21, o_if_eq 56 24), (24, o_ild 4 26), (26, o_ild 2 27), (27, o_isub 28), (28, o_push (.int (iI (9))) 30), (30, o_icmp_ge 50 33), (33, o_ild 5 35), (35, o_push (.int (iI (10))) 37), (37, o_imul 38), (38, o_ald 1 39), (39, o_ild 4 41), (41, o_call M_Tk_byteAt 2 44), (44, o_iadd 45), (45, o_push (.int (iI (48))) 47), (47, o_isub 48), (48, o_ist 5 50), (50, o_iinc 4 (iI (1)) 53), (53, o_goto 6), (56, o_ald 0 57), (57, o_ild 4 59), (59, o_ild 2 60), (60, o_isub 61), (61, o_push (.int (iI (9))) 63), (63, o_icmp_gt 72 66), (66, o_push (.int (iI (258))) 69), (69, o_goto 75), (72, o_push (.int (iI (257))) 75), (75, o_ild 5 77), (77, o_ild 2 78), (78, o_callV M_Tk_add 4 4 81), (81, o_ild 4 83), (83, o_iret)]
theorem k_Tk_readNumeral : ∀ x ∈ T_Tk_readNumeral, SO M_Tk_readNumeral x.1 x.2 := by
  obtain ⟨h0, h1, h3, h4, h6, h8, h9, h12, h13, h15, h18, h21⟩ := e0_Tk_readNumeral
  obtain ⟨h24, h26, h27, h28, h30, h33, h35, h37, h38, h39, h41, h44⟩ := e1_Tk_readNumeral
  obtain ⟨h45, h47, h48, h50, h53, h56, h57, h59, h60, h61, h63, h66⟩ := e2_Tk_readNumeral
  obtain ⟨h69, h72, h75, h77, h78, h81, h83⟩ := e3_Tk_readNumeral
  refine ac (s_ildn (M := M_Tk_readNumeral) (pc := 0) (k := 2) h0) ?_
  refine ac (s_ist (M := M_Tk_readNumeral) (pc := 1) h1 (by decide)) ?_
  refine ac (s_iconst (M := M_Tk_readNumeral) (pc := 3) h3 rfl) ?_
  refine ac (s_ist (M := M_Tk_readNumeral) (pc := 4) h4 (by decide)) ?_
  refine ac (s_ild (M := M_Tk_readNumeral) (pc := 6) h6) ?_
  refine ac (s_ildn (M := M_Tk_readNumeral) (pc := 8) (k := 3) h8) ?_
  refine ac (s_icmp_ge (M := M_Tk_readNumeral) (pc := 9) h9 (by decide)) ?_
  refine ac (s_aldn (M := M_Tk_readNumeral) (pc := 12) (k := 1) h12) ?_
  refine ac (s_ild (M := M_Tk_readNumeral) (pc := 13) h13) ?_
  refine ac (s_callS (M := M_Tk_readNumeral) (pc := 15) (tz_Tk rfl) h15 q_Tk_byteAt wd742 wd743) ?_
  refine ac (s_callS (M := M_Tk_readNumeral) (pc := 18) (tz_Tk rfl) h18 q_Tk_isDigit wd771 wd772) ?_
  refine ac (s_if_eq (M := M_Tk_readNumeral) (pc := 21) h21 (by decide)) ?_
  refine ac (s_ild (M := M_Tk_readNumeral) (pc := 24) h24) ?_
  refine ac (s_ildn (M := M_Tk_readNumeral) (pc := 26) (k := 2) h26) ?_
  refine ac (s_isub (M := M_Tk_readNumeral) (pc := 27) h27) ?_
  refine ac (s_bipush (M := M_Tk_readNumeral) (pc := 28) h28 (by decide)) ?_
  refine ac (s_icmp_ge (M := M_Tk_readNumeral) (pc := 30) h30 (by decide)) ?_
  refine ac (s_ild (M := M_Tk_readNumeral) (pc := 33) h33) ?_
  refine ac (s_bipush (M := M_Tk_readNumeral) (pc := 35) h35 (by decide)) ?_
  refine ac (s_imul (M := M_Tk_readNumeral) (pc := 37) h37) ?_
  refine ac (s_aldn (M := M_Tk_readNumeral) (pc := 38) (k := 1) h38) ?_
  refine ac (s_ild (M := M_Tk_readNumeral) (pc := 39) h39) ?_
  refine ac (s_callS (M := M_Tk_readNumeral) (pc := 41) (tz_Tk rfl) h41 q_Tk_byteAt wd742 wd743) ?_
  refine ac (s_iadd (M := M_Tk_readNumeral) (pc := 44) h44) ?_
  refine ac (s_bipush (M := M_Tk_readNumeral) (pc := 45) h45 (by decide)) ?_
  refine ac (s_isub (M := M_Tk_readNumeral) (pc := 47) h47) ?_
  refine ac (s_ist (M := M_Tk_readNumeral) (pc := 48) h48 (by decide)) ?_
  refine ac (s_iinc (M := M_Tk_readNumeral) (pc := 50) h50 rfl (by decide)) ?_
  refine ac (s_goto (M := M_Tk_readNumeral) (pc := 53) h53 (by decide)) ?_
  refine ac (s_aldn (M := M_Tk_readNumeral) (pc := 56) (k := 0) h56) ?_
  refine ac (s_ild (M := M_Tk_readNumeral) (pc := 57) h57) ?_
  refine ac (s_ildn (M := M_Tk_readNumeral) (pc := 59) (k := 2) h59) ?_
  refine ac (s_isub (M := M_Tk_readNumeral) (pc := 60) h60) ?_
  refine ac (s_bipush (M := M_Tk_readNumeral) (pc := 61) h61 (by decide)) ?_
  refine ac (s_icmp_gt (M := M_Tk_readNumeral) (pc := 63) h63 (by decide)) ?_
  refine ac (s_sipush (M := M_Tk_readNumeral) (pc := 66) h66 (by decide)) ?_
  refine ac (s_goto (M := M_Tk_readNumeral) (pc := 69) h69 (by decide)) ?_
  refine ac (s_sipush (M := M_Tk_readNumeral) (pc := 72) h72 (by decide)) ?_
  refine ac (s_ild (M := M_Tk_readNumeral) (pc := 75) h75) ?_
  refine ac (s_ildn (M := M_Tk_readNumeral) (pc := 77) (k := 2) h77) ?_
  refine ac (s_callV (M := M_Tk_readNumeral) (pc := 78) (tz_Tk rfl) h78 q_Tk_add wd752 wd754 wd9 rfl (T := TX6) (N := 7) rfl) ?_
  refine ac (s_ild (M := M_Tk_readNumeral) (pc := 81) h81) ?_
  refine ac (s_iret (M := M_Tk_readNumeral) (pc := 83) h83 rfl) ?_
  exact ac_nil
theorem e0_Se_readSetup : decode prog_7_method_2_code 0 = .ok (.aload_n 1, 1) ∧ decode prog_7_method_2_code 1 = .ok (.invokevirtual 18, 3) ∧ decode prog_7_method_2_code 4 = .ok (.aload_n 0, 1) ∧ decode prog_7_method_2_code 5 = .ok (.aload_n 1, 1) ∧ decode prog_7_method_2_code 6 = .ok (.getfield 23, 3) ∧ decode prog_7_method_2_code 9 = .ok (.invokevirtual 27, 3) ∧ decode prog_7_method_2_code 12 = .ok (.ifCond .eq 34, 3) ∧ decode prog_7_method_2_code 15 = .ok (.aload_n 0, 1) ∧ decode prog_7_method_2_code 16 = .ok (.aload_n 1, 1) ∧ decode prog_7_method_2_code 17 = .ok (.getfield 23, 3) ∧ decode prog_7_method_2_code 20 = .ok (.invokevirtual 31, 3) ∧ decode prog_7_method_2_code 23 = .ok (.ifCond .eq 23, 3) := by decide +kernel
theorem e1_Se_readSetup : decode prog_7_method_2_code 26 = .ok (.aload_n 0, 1) ∧ decode prog_7_method_2_code 27 = .ok (.aload_n 1, 1) ∧ decode prog_7_method_2_code 28 = .ok (.invokevirtual 34, 3) ∧ decode prog_7_method_2_code 31 = .ok (.ifCond .eq 15, 3) ∧ decode prog_7_method_2_code 34 = .ok (.aload_n 0, 1) ∧ decode prog_7_method_2_code 35 = .ok (.aload_n 1, 1) ∧ decode prog_7_method_2_code 36 = .ok (.invokevirtual 38, 3) ∧ decode prog_7_method_2_code 39 = .ok (.ifCond .eq 7, 3) ∧ decode prog_7_method_2_code 42 = .ok (.iconst 1, 1) ∧ decode prog_7_method_2_code 43 = .ok (.goto 4, 3) ∧ decode prog_7_method_2_code 46 = .ok (.iconst 0, 1) ∧ decode prog_7_method_2_code 47 = .ok (.ireturn, 1) := by decide +kernel
def T_Se_readSetup : TT := [(0, o_ald 1 1), (1, o_callV M_Ml_clear 1 1 4), (4, o_ald 0 5), (5, o_ald 1 6), (6, o_get 1 0 9), (9, o_callV M_Se_readModuli 5 2 12), (12, o_if_eq 46 15), (15, o_ald 0 16), (16, o_ald 1 17), (17, o_get 1 0 20), (20, o_callV M_Se_readChecks 5 2 23), (23, o_if_eq 46 26), (26, o_ald 0 27), (27, o_ald 1 28), (28, o_callV M_Se_readStrict 5 2 31), (31, o_if_eq 46 34), (34, o_ald 0 35), (35, o_ald 1 36), (36, o_callV M_Se_readSets 5 2 39), (39, o_if_eq 46 42), (42, o_push (.int (iI (1))) 43), (43, o_goto 47), (46, o_push (.int (iI (0))) 47), (47, o_zret)]
theorem k_Se_readSetup : ∀ x ∈ T_Se_readSetup, SO M_Se_readSetup x.1 x.2 := by
  obtain ⟨h0, h1, h4, h5, h6, h9, h12, h15, h16, h17, h20, h23⟩ := e0_Se_readSetup
  obtain ⟨h26, h27, h28, h31, h34, h35, h36, h39, h42, h43, h46, h47⟩ := e1_Se_readSetup
  refine ac (s_aldn (M := M_Se_readSetup) (pc := 0) (k := 1) h0) ?_
  refine ac (s_callV (M := M_Se_readSetup) (pc := 1) (tz_Se rfl) h1 q_Ml_clear wd840 wd841 wd842 rfl (T := TX1) (N := 4) rfl) ?_
  refine ac (s_aldn (M := M_Se_readSetup) (pc := 4) (k := 0) h4) ?_
  refine ac (s_aldn (M := M_Se_readSetup) (pc := 5) (k := 1) h5) ?_
  refine ac (s_get (M := M_Se_readSetup) (pc := 6) (T := TX1) (N := 4) h6 rfl in_X1 (by decide) wd101) ?_
  refine ac (s_callV (M := M_Se_readSetup) (pc := 9) (tz_Se rfl) h9 q_Se_readModuli wd854 wd856 wd11 rfl (T := TX5) (N := 1) rfl) ?_
  refine ac (s_if_eq (M := M_Se_readSetup) (pc := 12) h12 (by decide)) ?_
  refine ac (s_aldn (M := M_Se_readSetup) (pc := 15) (k := 0) h15) ?_
  refine ac (s_aldn (M := M_Se_readSetup) (pc := 16) (k := 1) h16) ?_
  refine ac (s_get (M := M_Se_readSetup) (pc := 17) (T := TX1) (N := 4) h17 rfl in_X1 (by decide) wd101) ?_
  refine ac (s_callV (M := M_Se_readSetup) (pc := 20) (tz_Se rfl) h20 q_Se_readChecks wd898 wd900 wd13 rfl (T := TX5) (N := 1) rfl) ?_
  refine ac (s_if_eq (M := M_Se_readSetup) (pc := 23) h23 (by decide)) ?_
  refine ac (s_aldn (M := M_Se_readSetup) (pc := 26) (k := 0) h26) ?_
  refine ac (s_aldn (M := M_Se_readSetup) (pc := 27) (k := 1) h27) ?_
  refine ac (s_callV (M := M_Se_readSetup) (pc := 28) (tz_Se rfl) h28 q_Se_readStrict wd909 wd911 wd14 rfl (T := TX5) (N := 1) rfl) ?_
  refine ac (s_if_eq (M := M_Se_readSetup) (pc := 31) h31 (by decide)) ?_
  refine ac (s_aldn (M := M_Se_readSetup) (pc := 34) (k := 0) h34) ?_
  refine ac (s_aldn (M := M_Se_readSetup) (pc := 35) (k := 1) h35) ?_
  refine ac (s_callV (M := M_Se_readSetup) (pc := 36) (tz_Se rfl) h36 q_Se_readSets wd913 wd915 wd15 rfl (T := TX5) (N := 1) rfl) ?_
  refine ac (s_if_eq (M := M_Se_readSetup) (pc := 39) h39 (by decide)) ?_
  refine ac (s_iconst (M := M_Se_readSetup) (pc := 42) h42 rfl) ?_
  refine ac (s_goto (M := M_Se_readSetup) (pc := 43) h43 (by decide)) ?_
  refine ac (s_iconst (M := M_Se_readSetup) (pc := 46) h46 rfl) ?_
  refine ac (s_zret (M := M_Se_readSetup) (pc := 47) h47 rfl) ?_
  exact ac_nil
theorem e0_Se_readModuli : decode prog_7_method_3_code 0 = .ok (.aload_n 0, 1) ∧ decode prog_7_method_3_code 1 = .ok (.getfield 12, 3) ∧ decode prog_7_method_3_code 4 = .ok (.sipush 260, 3) ∧ decode prog_7_method_3_code 7 = .ok (.invokevirtual 41, 3) ∧ decode prog_7_method_3_code 10 = .ok (.ifCond .ne 5, 3) ∧ decode prog_7_method_3_code 13 = .ok (.iconst 0, 1) ∧ decode prog_7_method_3_code 14 = .ok (.ireturn, 1) ∧ decode prog_7_method_3_code 15 = .ok (.iconst 0, 1) ∧ decode prog_7_method_3_code 16 = .ok (.istore_n 2, 1) ∧ decode prog_7_method_3_code 17 = .ok (.iload_n 2, 1) ∧ decode prog_7_method_3_code 18 = .ok (.bipush 6, 2) ∧ decode prog_7_method_3_code 20 = .ok (.if_icmp .gt 66, 3) := by decide +kernel
theorem e1_Se_readModuli : decode prog_7_method_3_code 23 = .ok (.iload_n 2, 1) ∧ decode prog_7_method_3_code 24 = .ok (.iconst 2, 1) ∧ decode prog_7_method_3_code 25 = .ok (.if_icmp .lt 18, 3) ∧ decode prog_7_method_3_code 28 = .ok (.aload_n 0, 1) ∧ decode prog_7_method_3_code 29 = .ok (.getfield 12, 3) ∧ decode prog_7_method_3_code 32 = .ok (.invokevirtual 45, 3) ∧ decode prog_7_method_3_code 35 = .ok (.bipush 59, 2) ∧ decode prog_7_method_3_code 37 = .ok (.if_icmp .ne 6, 3) ∧ decode prog_7_method_3_code 40 = .ok (.goto 46, 3) ∧ decode prog_7_method_3_code 43 = .ok (.aload_n 0, 1) ∧ decode prog_7_method_3_code 44 = .ok (.aload_n 1, 1) ∧ decode prog_7_method_3_code 45 = .ok (.invokevirtual 49, 3) := by decide +kernel
theorem e2_Se_readModuli : decode prog_7_method_3_code 48 = .ok (.istore_n 3, 1) ∧ decode prog_7_method_3_code 49 = .ok (.iload_n 3, 1) ∧ decode prog_7_method_3_code 50 = .ok (.ifCond .eq 12, 3) ∧ decode prog_7_method_3_code 53 = .ok (.aload_n 0, 1) ∧ decode prog_7_method_3_code 54 = .ok (.getfield 12, 3) ∧ decode prog_7_method_3_code 57 = .ok (.iload_n 3, 1) ∧ decode prog_7_method_3_code 58 = .ok (.invokevirtual 53, 3) ∧ decode prog_7_method_3_code 61 = .ok (.ireturn, 1) ∧ decode prog_7_method_3_code 62 = .ok (.aload_n 1, 1) ∧ decode prog_7_method_3_code 63 = .ok (.aload_n 0, 1) ∧ decode prog_7_method_3_code 64 = .ok (.getfield 12, 3) ∧ decode prog_7_method_3_code 67 = .ok (.invokevirtual 56, 3) := by decide +kernel
theorem e3_Se_readModuli : decode prog_7_method_3_code 70 = .ok (.invokevirtual 59, 3) ∧ decode prog_7_method_3_code 73 = .ok (.aload_n 0, 1) ∧ decode prog_7_method_3_code 74 = .ok (.getfield 12, 3) ∧ decode prog_7_method_3_code 77 = .ok (.invokevirtual 65, 3) ∧ decode prog_7_method_3_code 80 = .ok (.iinc 2 1, 3) ∧ decode prog_7_method_3_code 83 = .ok (.goto (-66), 3) ∧ decode prog_7_method_3_code 86 = .ok (.aload_n 0, 1) ∧ decode prog_7_method_3_code 87 = .ok (.getfield 12, 3) ∧ decode prog_7_method_3_code 90 = .ok (.bipush 59, 2) ∧ decode prog_7_method_3_code 92 = .ok (.invokevirtual 41, 3) ∧ decode prog_7_method_3_code 95 = .ok (.ireturn, 1) := by decide +kernel
def T_Se_readModuli : TT := [(0, o_ald 0 1), (1, o_get 5 0 4), (4, o_push (.int (iI (260))) 7), (7, o_callV M_Tk_take 4 2 10), (10, o_if_ne 15 13), (13, o_push (.int (iI (0))) 14), (14, o_zret), (15, o_push (.int (iI (0))) 16), (16, o_ist 2 17), (17, o_ild 2 18), (18, o_push (.int (iI (6))) 20), (20, o_icmp_gt 86 23), (23, o_ild 2 24), (24, o_push (.int (iI (2))) 25), (25, o_icmp_lt 43 28), (28, o_ald 0 29), (29, o_get 5 0 32), (32, o_callV M_Tk_kind 4 1 35), (35, o_push (.int (iI (59))) 37), (37, o_icmp_ne 43 40), (40, o_goto 86), (43, o_ald 0 44), (44, o_ald 1 45), (45, o_callV M_Se_modulusError 5 2 48), (48, o_ist 3 49), (49, o_ild 3 50), (50, o_if_eq 62 53), (53, o_ald 0 54), (54, o_get 5 0 57), (57, o_ild 3 58), (58, o_callV M_Tk_fail 4 2 61), (61, o_zret), (62, o_ald 1 63), (63, o_ald 0 64), (64, o_get 5 0 67), (67, o_callV M_Tk_amount 4 1 70), (70, o_callV M_Mo_insert 2 2 73), (73, o_ald 0 74), (74, o_get 5 0 77), (77, o_callV M_Tk_move 4 1 80), (80, o_iinc 2 (iI (1)) 83), (83, o_goto 17), (86, o_ald 0 87), (87, o_get 5 0 90), (90, o_push (.int (iI (59))) 92), (92, o_callV M_Tk_take 4 2 95), (95, o_zret)]
theorem k_Se_readModuli : ∀ x ∈ T_Se_readModuli, SO M_Se_readModuli x.1 x.2 := by
  obtain ⟨h0, h1, h4, h7, h10, h13, h14, h15, h16, h17, h18, h20⟩ := e0_Se_readModuli
  obtain ⟨h23, h24, h25, h28, h29, h32, h35, h37, h40, h43, h44, h45⟩ := e1_Se_readModuli
  obtain ⟨h48, h49, h50, h53, h54, h57, h58, h61, h62, h63, h64, h67⟩ := e2_Se_readModuli
  obtain ⟨h70, h73, h74, h77, h80, h83, h86, h87, h90, h92, h95⟩ := e3_Se_readModuli
  refine ac (s_aldn (M := M_Se_readModuli) (pc := 0) (k := 0) h0) ?_
  refine ac (s_get (M := M_Se_readModuli) (pc := 1) (T := TX5) (N := 1) h1 rfl in_X5 (by decide) wd172) ?_
  refine ac (s_sipush (M := M_Se_readModuli) (pc := 4) h4 (by decide)) ?_
  refine ac (s_callV (M := M_Se_readModuli) (pc := 7) (tz_Se rfl) h7 q_Tk_take wd858 wd859 wd860 rfl (T := TX6) (N := 7) rfl) ?_
  refine ac (s_if_ne (M := M_Se_readModuli) (pc := 10) h10 (by decide)) ?_
  refine ac (s_iconst (M := M_Se_readModuli) (pc := 13) h13 rfl) ?_
  refine ac (s_zret (M := M_Se_readModuli) (pc := 14) h14 rfl) ?_
  refine ac (s_iconst (M := M_Se_readModuli) (pc := 15) h15 rfl) ?_
  refine ac (s_istn (M := M_Se_readModuli) (pc := 16) (k := 2) h16 (by decide)) ?_
  refine ac (s_ildn (M := M_Se_readModuli) (pc := 17) (k := 2) h17) ?_
  refine ac (s_bipush (M := M_Se_readModuli) (pc := 18) h18 (by decide)) ?_
  refine ac (s_icmp_gt (M := M_Se_readModuli) (pc := 20) h20 (by decide)) ?_
  refine ac (s_ildn (M := M_Se_readModuli) (pc := 23) (k := 2) h23) ?_
  refine ac (s_iconst (M := M_Se_readModuli) (pc := 24) h24 rfl) ?_
  refine ac (s_icmp_lt (M := M_Se_readModuli) (pc := 25) h25 (by decide)) ?_
  refine ac (s_aldn (M := M_Se_readModuli) (pc := 28) (k := 0) h28) ?_
  refine ac (s_get (M := M_Se_readModuli) (pc := 29) (T := TX5) (N := 1) h29 rfl in_X5 (by decide) wd172) ?_
  refine ac (s_callV (M := M_Se_readModuli) (pc := 32) (tz_Se rfl) h32 q_Tk_kind wd874 wd863 wd864 rfl (T := TX6) (N := 7) rfl) ?_
  refine ac (s_bipush (M := M_Se_readModuli) (pc := 35) h35 (by decide)) ?_
  refine ac (s_icmp_ne (M := M_Se_readModuli) (pc := 37) h37 (by decide)) ?_
  refine ac (s_goto (M := M_Se_readModuli) (pc := 40) h40 (by decide)) ?_
  refine ac (s_aldn (M := M_Se_readModuli) (pc := 43) (k := 0) h43) ?_
  refine ac (s_aldn (M := M_Se_readModuli) (pc := 44) (k := 1) h44) ?_
  refine ac (s_callV (M := M_Se_readModuli) (pc := 45) (tz_Se rfl) h45 q_Se_modulusError wd875 wd877 wd12 rfl (T := TX5) (N := 1) rfl) ?_
  refine ac (s_istn (M := M_Se_readModuli) (pc := 48) (k := 3) h48 (by decide)) ?_
  refine ac (s_ildn (M := M_Se_readModuli) (pc := 49) (k := 3) h49) ?_
  refine ac (s_if_eq (M := M_Se_readModuli) (pc := 50) h50 (by decide)) ?_
  refine ac (s_aldn (M := M_Se_readModuli) (pc := 53) (k := 0) h53) ?_
  refine ac (s_get (M := M_Se_readModuli) (pc := 54) (T := TX5) (N := 1) h54 rfl in_X5 (by decide) wd172) ?_
  refine ac (s_ildn (M := M_Se_readModuli) (pc := 57) (k := 3) h57) ?_
  refine ac (s_callV (M := M_Se_readModuli) (pc := 58) (tz_Se rfl) h58 q_Tk_fail wd895 wd867 wd868 rfl (T := TX6) (N := 7) rfl) ?_
  refine ac (s_zret (M := M_Se_readModuli) (pc := 61) h61 rfl) ?_
  refine ac (s_aldn (M := M_Se_readModuli) (pc := 62) (k := 1) h62) ?_
  refine ac (s_aldn (M := M_Se_readModuli) (pc := 63) (k := 0) h63) ?_
  refine ac (s_get (M := M_Se_readModuli) (pc := 64) (T := TX5) (N := 1) h64 rfl in_X5 (by decide) wd172) ?_
  refine ac (s_callV (M := M_Se_readModuli) (pc := 67) (tz_Se rfl) h67 q_Tk_amount wd879 wd880 wd881 rfl (T := TX6) (N := 7) rfl) ?_
  refine ac (s_callV (M := M_Se_readModuli) (pc := 70) (tz_Se rfl) h70 q_Mo_insert wd896 wd251 wd252 rfl (T := TX2) (N := 6) rfl) ?_
  refine ac (s_aldn (M := M_Se_readModuli) (pc := 73) (k := 0) h73) ?_
  refine ac (s_get (M := M_Se_readModuli) (pc := 74) (T := TX5) (N := 1) h74 rfl in_X5 (by decide) wd172) ?_
  refine ac (s_callV (M := M_Se_readModuli) (pc := 77) (tz_Se rfl) h77 q_Tk_move wd897 wd871 wd872 rfl (T := TX6) (N := 7) rfl) ?_
  refine ac (s_iinc (M := M_Se_readModuli) (pc := 80) h80 rfl (by decide)) ?_
  refine ac (s_goto (M := M_Se_readModuli) (pc := 83) h83 (by decide)) ?_
  refine ac (s_aldn (M := M_Se_readModuli) (pc := 86) (k := 0) h86) ?_
  refine ac (s_get (M := M_Se_readModuli) (pc := 87) (T := TX5) (N := 1) h87 rfl in_X5 (by decide) wd172) ?_
  refine ac (s_bipush (M := M_Se_readModuli) (pc := 90) h90 (by decide)) ?_
  refine ac (s_callV (M := M_Se_readModuli) (pc := 92) (tz_Se rfl) h92 q_Tk_take wd858 wd859 wd860 rfl (T := TX6) (N := 7) rfl) ?_
  refine ac (s_zret (M := M_Se_readModuli) (pc := 95) h95 rfl) ?_
  exact ac_nil
theorem e0_Tk_take : decode prog_8_method_6_code 0 = .ok (.aload_n 0, 1) ∧ decode prog_8_method_6_code 1 = .ok (.invokevirtual 42, 3) ∧ decode prog_8_method_6_code 4 = .ok (.iload_n 1, 1) ∧ decode prog_8_method_6_code 5 = .ok (.if_icmp .eq 9, 3) ∧ decode prog_8_method_6_code 8 = .ok (.aload_n 0, 1) ∧ decode prog_8_method_6_code 9 = .ok (.iconst 1, 1) ∧ decode prog_8_method_6_code 10 = .ok (.invokevirtual 46, 3) ∧ decode prog_8_method_6_code 13 = .ok (.ireturn, 1) ∧ decode prog_8_method_6_code 14 = .ok (.aload_n 0, 1) ∧ decode prog_8_method_6_code 15 = .ok (.invokevirtual 50, 3) ∧ decode prog_8_method_6_code 18 = .ok (.iconst 1, 1) ∧ decode prog_8_method_6_code 19 = .ok (.ireturn, 1) := by decide +kernel
def T_Tk_take : TT := [(0, o_ald 0 1), (1, o_callV M_Tk_kind 4 1 4), (4, o_ild 1 5), (5, o_icmp_eq 14 8), (8, o_ald 0 9), (9, o_push (.int (iI (1))) 10), (10, o_callV M_Tk_fail 4 2 13), (13, o_zret), (14, o_ald 0 15), (15, o_callV M_Tk_move 4 1 18), (18, o_push (.int (iI (1))) 19), (19, o_zret)]
theorem k_Tk_take : ∀ x ∈ T_Tk_take, SO M_Tk_take x.1 x.2 := by
  obtain ⟨h0, h1, h4, h5, h8, h9, h10, h13, h14, h15, h18, h19⟩ := e0_Tk_take
  refine ac (s_aldn (M := M_Tk_take) (pc := 0) (k := 0) h0) ?_
  refine ac (s_callV (M := M_Tk_take) (pc := 1) (tz_Tk rfl) h1 q_Tk_kind wd862 wd863 wd864 rfl (T := TX6) (N := 7) rfl) ?_
  refine ac (s_ildn (M := M_Tk_take) (pc := 4) (k := 1) h4) ?_
  refine ac (s_icmp_eq (M := M_Tk_take) (pc := 5) h5 (by decide)) ?_
  refine ac (s_aldn (M := M_Tk_take) (pc := 8) (k := 0) h8) ?_
  refine ac (s_iconst (M := M_Tk_take) (pc := 9) h9 rfl) ?_
  refine ac (s_callV (M := M_Tk_take) (pc := 10) (tz_Tk rfl) h10 q_Tk_fail wd866 wd867 wd868 rfl (T := TX6) (N := 7) rfl) ?_
  refine ac (s_zret (M := M_Tk_take) (pc := 13) h13 rfl) ?_
  refine ac (s_aldn (M := M_Tk_take) (pc := 14) (k := 0) h14) ?_
  refine ac (s_callV (M := M_Tk_take) (pc := 15) (tz_Tk rfl) h15 q_Tk_move wd870 wd871 wd872 rfl (T := TX6) (N := 7) rfl) ?_
  refine ac (s_iconst (M := M_Tk_take) (pc := 18) h18 rfl) ?_
  refine ac (s_zret (M := M_Tk_take) (pc := 19) h19 rfl) ?_
  exact ac_nil
theorem e0_Tk_kind : decode prog_8_method_3_code 0 = .ok (.aload_n 0, 1) ∧ decode prog_8_method_3_code 1 = .ok (.getfield 31, 3) ∧ decode prog_8_method_3_code 4 = .ok (.ifCond .lt 26, 3) ∧ decode prog_8_method_3_code 7 = .ok (.aload_n 0, 1) ∧ decode prog_8_method_3_code 8 = .ok (.getfield 31, 3) ∧ decode prog_8_method_3_code 11 = .ok (.aload_n 0, 1) ∧ decode prog_8_method_3_code 12 = .ok (.getfield 28, 3) ∧ decode prog_8_method_3_code 15 = .ok (.if_icmp .ge 15, 3) ∧ decode prog_8_method_3_code 18 = .ok (.aload_n 0, 1) ∧ decode prog_8_method_3_code 19 = .ok (.getfield 31, 3) ∧ decode prog_8_method_3_code 22 = .ok (.aload_n 0, 1) ∧ decode prog_8_method_3_code 23 = .ok (.getfield 9, 3) := by decide +kernel
theorem e1_Tk_kind : decode prog_8_method_3_code 26 = .ok (.arraylength, 1) ∧ decode prog_8_method_3_code 27 = .ok (.if_icmp .lt 9, 3) ∧ decode prog_8_method_3_code 30 = .ok (.sipush 256, 3) ∧ decode prog_8_method_3_code 33 = .ok (.goto 12, 3) ∧ decode prog_8_method_3_code 36 = .ok (.aload_n 0, 1) ∧ decode prog_8_method_3_code 37 = .ok (.getfield 9, 3) ∧ decode prog_8_method_3_code 40 = .ok (.aload_n 0, 1) ∧ decode prog_8_method_3_code 41 = .ok (.getfield 31, 3) ∧ decode prog_8_method_3_code 44 = .ok (.iaload, 1) ∧ decode prog_8_method_3_code 45 = .ok (.ireturn, 1) := by decide +kernel
def T_Tk_kind : TT := [(0, o_ald 0 1), (1, o_get 4 4 4), (4, o_if_lt 30 7), (7, o_ald 0 8), (8, o_get 4 4 11), (11, o_ald 0 12), (12, o_get 4 3 15), (15, o_icmp_ge 30 18), (18, o_ald 0 19), (19, o_get 4 4 22), (22, o_ald 0 23), (23, o_get 4 0 26), (26, o_alen 27), (27, o_icmp_lt 36 30), (30, o_push (.int (iI (256))) 33), (33, o_goto 45), (36, o_ald 0 37), (37, o_get 4 0 40), (40, o_ald 0 41), (41, o_get 4 4 44), (44, o_iald 45), (45, o_iret)]
theorem k_Tk_kind : ∀ x ∈ T_Tk_kind, SO M_Tk_kind x.1 x.2 := by
  obtain ⟨h0, h1, h4, h7, h8, h11, h12, h15, h18, h19, h22, h23⟩ := e0_Tk_kind
  obtain ⟨h26, h27, h30, h33, h36, h37, h40, h41, h44, h45⟩ := e1_Tk_kind
  refine ac (s_aldn (M := M_Tk_kind) (pc := 0) (k := 0) h0) ?_
  refine ac (s_get (M := M_Tk_kind) (pc := 1) (T := TX6) (N := 7) h1 rfl in_X6 (by decide) wd152) ?_
  refine ac (s_if_lt (M := M_Tk_kind) (pc := 4) h4 (by decide)) ?_
  refine ac (s_aldn (M := M_Tk_kind) (pc := 7) (k := 0) h7) ?_
  refine ac (s_get (M := M_Tk_kind) (pc := 8) (T := TX6) (N := 7) h8 rfl in_X6 (by decide) wd152) ?_
  refine ac (s_aldn (M := M_Tk_kind) (pc := 11) (k := 0) h11) ?_
  refine ac (s_get (M := M_Tk_kind) (pc := 12) (T := TX6) (N := 7) h12 rfl in_X6 (by decide) wd151) ?_
  refine ac (s_icmp_ge (M := M_Tk_kind) (pc := 15) h15 (by decide)) ?_
  refine ac (s_aldn (M := M_Tk_kind) (pc := 18) (k := 0) h18) ?_
  refine ac (s_get (M := M_Tk_kind) (pc := 19) (T := TX6) (N := 7) h19 rfl in_X6 (by decide) wd152) ?_
  refine ac (s_aldn (M := M_Tk_kind) (pc := 22) (k := 0) h22) ?_
  refine ac (s_get (M := M_Tk_kind) (pc := 23) (T := TX6) (N := 7) h23 rfl in_X6 (by decide) wd148) ?_
  refine ac (s_alen (M := M_Tk_kind) (pc := 26) h26) ?_
  refine ac (s_icmp_lt (M := M_Tk_kind) (pc := 27) h27 (by decide)) ?_
  refine ac (s_sipush (M := M_Tk_kind) (pc := 30) h30 (by decide)) ?_
  refine ac (s_goto (M := M_Tk_kind) (pc := 33) h33 (by decide)) ?_
  refine ac (s_aldn (M := M_Tk_kind) (pc := 36) (k := 0) h36) ?_
  refine ac (s_get (M := M_Tk_kind) (pc := 37) (T := TX6) (N := 7) h37 rfl in_X6 (by decide) wd148) ?_
  refine ac (s_aldn (M := M_Tk_kind) (pc := 40) (k := 0) h40) ?_
  refine ac (s_get (M := M_Tk_kind) (pc := 41) (T := TX6) (N := 7) h41 rfl in_X6 (by decide) wd152) ?_
  refine ac (s_iald (M := M_Tk_kind) (pc := 44) h44) ?_
  refine ac (s_iret (M := M_Tk_kind) (pc := 45) h45 rfl) ?_
  exact ac_nil
theorem e0_Tk_fail : decode prog_8_method_8_code 0 = .ok (.aload_n 0, 1) ∧ decode prog_8_method_8_code 1 = .ok (.iload_n 1, 1) ∧ decode prog_8_method_8_code 2 = .ok (.putfield 21, 3) ∧ decode prog_8_method_8_code 5 = .ok (.aload_n 0, 1) ∧ decode prog_8_method_8_code 6 = .ok (.aload_n 0, 1) ∧ decode prog_8_method_8_code 7 = .ok (.getfield 31, 3) ∧ decode prog_8_method_8_code 10 = .ok (.ifCond .lt 15, 3) ∧ decode prog_8_method_8_code 13 = .ok (.aload_n 0, 1) ∧ decode prog_8_method_8_code 14 = .ok (.getfield 31, 3) ∧ decode prog_8_method_8_code 17 = .ok (.aload_n 0, 1) ∧ decode prog_8_method_8_code 18 = .ok (.getfield 18, 3) ∧ decode prog_8_method_8_code 21 = .ok (.arraylength, 1) := by decide +kernel
theorem e1_Tk_fail : decode prog_8_method_8_code 22 = .ok (.if_icmp .lt 7, 3) ∧ decode prog_8_method_8_code 25 = .ok (.iconst 0, 1) ∧ decode prog_8_method_8_code 26 = .ok (.goto 12, 3) ∧ decode prog_8_method_8_code 29 = .ok (.aload_n 0, 1) ∧ decode prog_8_method_8_code 30 = .ok (.getfield 18, 3) ∧ decode prog_8_method_8_code 33 = .ok (.aload_n 0, 1) ∧ decode prog_8_method_8_code 34 = .ok (.getfield 31, 3) ∧ decode prog_8_method_8_code 37 = .ok (.iaload, 1) ∧ decode prog_8_method_8_code 38 = .ok (.putfield 25, 3) ∧ decode prog_8_method_8_code 41 = .ok (.iconst 0, 1) ∧ decode prog_8_method_8_code 42 = .ok (.ireturn, 1) := by decide +kernel
def T_Tk_fail : TT := [(0, o_ald 0 1), (1, o_ild 1 2), (2, o_puti 4 5 5), (5, o_ald 0 6), (6, o_ald 0 7), (7, o_get 4 4 10), (10, o_if_lt 25 13), (13, o_ald 0 14), (14, o_get 4 4 17), (17, o_ald 0 18), (18, o_get 4 2 21), (21, o_alen 22), (22, o_icmp_lt 29 25), (25, o_push (.int (iI (0))) 26), (26, o_goto 38), (29, o_ald 0 30), (30, o_get 4 2 33), (33, o_ald 0 34), (34, o_get 4 4 37), (37, o_iald 38), (38, o_puti 4 6 41), (41, o_push (.int (iI (0))) 42), (42, o_zret)]
theorem k_Tk_fail : ∀ x ∈ T_Tk_fail, SO M_Tk_fail x.1 x.2 := by
  obtain ⟨h0, h1, h2, h5, h6, h7, h10, h13, h14, h17, h18, h21⟩ := e0_Tk_fail
  obtain ⟨h22, h25, h26, h29, h30, h33, h34, h37, h38, h41, h42⟩ := e1_Tk_fail
  refine ac (s_aldn (M := M_Tk_fail) (pc := 0) (k := 0) h0) ?_
  refine ac (s_ildn (M := M_Tk_fail) (pc := 1) (k := 1) h1) ?_
  refine ac (s_puti (M := M_Tk_fail) (pc := 2) (T := TX6) (N := 7) (ty0 := tyX6) h2 ⟨rfl, in_X6, by decide, wd153, tyX6_ok, nmX6, (Or.inl rfl)⟩ rfl) ?_
  refine ac (s_aldn (M := M_Tk_fail) (pc := 5) (k := 0) h5) ?_
  refine ac (s_aldn (M := M_Tk_fail) (pc := 6) (k := 0) h6) ?_
  refine ac (s_get (M := M_Tk_fail) (pc := 7) (T := TX6) (N := 7) h7 rfl in_X6 (by decide) wd152) ?_
  refine ac (s_if_lt (M := M_Tk_fail) (pc := 10) h10 (by decide)) ?_
  refine ac (s_aldn (M := M_Tk_fail) (pc := 13) (k := 0) h13) ?_
  refine ac (s_get (M := M_Tk_fail) (pc := 14) (T := TX6) (N := 7) h14 rfl in_X6 (by decide) wd152) ?_
  refine ac (s_aldn (M := M_Tk_fail) (pc := 17) (k := 0) h17) ?_
  refine ac (s_get (M := M_Tk_fail) (pc := 18) (T := TX6) (N := 7) h18 rfl in_X6 (by decide) wd150) ?_
  refine ac (s_alen (M := M_Tk_fail) (pc := 21) h21) ?_
  refine ac (s_icmp_lt (M := M_Tk_fail) (pc := 22) h22 (by decide)) ?_
  refine ac (s_iconst (M := M_Tk_fail) (pc := 25) h25 rfl) ?_
  refine ac (s_goto (M := M_Tk_fail) (pc := 26) h26 (by decide)) ?_
  refine ac (s_aldn (M := M_Tk_fail) (pc := 29) (k := 0) h29) ?_
  refine ac (s_get (M := M_Tk_fail) (pc := 30) (T := TX6) (N := 7) h30 rfl in_X6 (by decide) wd150) ?_
  refine ac (s_aldn (M := M_Tk_fail) (pc := 33) (k := 0) h33) ?_
  refine ac (s_get (M := M_Tk_fail) (pc := 34) (T := TX6) (N := 7) h34 rfl in_X6 (by decide) wd152) ?_
  refine ac (s_iald (M := M_Tk_fail) (pc := 37) h37) ?_
  refine ac (s_puti (M := M_Tk_fail) (pc := 38) (T := TX6) (N := 7) (ty0 := tyX6) h38 ⟨rfl, in_X6, by decide, wd155, tyX6_ok, nmX6, (Or.inl rfl)⟩ rfl) ?_
  refine ac (s_iconst (M := M_Tk_fail) (pc := 41) h41 rfl) ?_
  refine ac (s_zret (M := M_Tk_fail) (pc := 42) h42 rfl) ?_
  exact ac_nil
theorem e0_Tk_move : decode prog_8_method_5_code 0 = .ok (.aload_n 0, 1) ∧ decode prog_8_method_5_code 1 = .ok (.getfield 31, 3) ∧ decode prog_8_method_5_code 4 = .ok (.iconst 1, 1) ∧ decode prog_8_method_5_code 5 = .ok (.iadd, 1) ∧ decode prog_8_method_5_code 6 = .ok (.aload_n 0, 1) ∧ decode prog_8_method_5_code 7 = .ok (.getfield 28, 3) ∧ decode prog_8_method_5_code 10 = .ok (.if_icmp .ge 13, 3) ∧ decode prog_8_method_5_code 13 = .ok (.aload_n 0, 1) ∧ decode prog_8_method_5_code 14 = .ok (.dup, 1) ∧ decode prog_8_method_5_code 15 = .ok (.getfield 31, 3) ∧ decode prog_8_method_5_code 18 = .ok (.iconst 1, 1) ∧ decode prog_8_method_5_code 19 = .ok (.iadd, 1) := by decide +kernel
theorem e1_Tk_move : decode prog_8_method_5_code 20 = .ok (.putfield 31, 3) ∧ decode prog_8_method_5_code 23 = .ok (.return_, 1) := by decide +kernel
def T_Tk_move : TT := [(0, o_ald 0 1), (1, o_get 4 4 4), (4, o_push (.int (iI (1))) 5), (5, o_iadd 6), (6, o_ald 0 7), (7, o_get 4 3 10), (10, o_icmp_ge 23 13), (13, o_ald 0 14), (14, o_dup 15), (15, o_get 4 4 18), (18, o_push (.int (iI (1))) 19), (19, o_iadd 20), (20, o_puti 4 4 23), (23, o_vret)]
theorem k_Tk_move : ∀ x ∈ T_Tk_move, SO M_Tk_move x.1 x.2 := by
  obtain ⟨h0, h1, h4, h5, h6, h7, h10, h13, h14, h15, h18, h19⟩ := e0_Tk_move
  obtain ⟨h20, h23⟩ := e1_Tk_move
  refine ac (s_aldn (M := M_Tk_move) (pc := 0) (k := 0) h0) ?_
  refine ac (s_get (M := M_Tk_move) (pc := 1) (T := TX6) (N := 7) h1 rfl in_X6 (by decide) wd152) ?_
  refine ac (s_iconst (M := M_Tk_move) (pc := 4) h4 rfl) ?_
  refine ac (s_iadd (M := M_Tk_move) (pc := 5) h5) ?_
  refine ac (s_aldn (M := M_Tk_move) (pc := 6) (k := 0) h6) ?_
  refine ac (s_get (M := M_Tk_move) (pc := 7) (T := TX6) (N := 7) h7 rfl in_X6 (by decide) wd151) ?_
  refine ac (s_icmp_ge (M := M_Tk_move) (pc := 10) h10 (by decide)) ?_
  refine ac (s_aldn (M := M_Tk_move) (pc := 13) (k := 0) h13) ?_
  refine ac (s_dup (M := M_Tk_move) (pc := 14) h14) ?_
  refine ac (s_get (M := M_Tk_move) (pc := 15) (T := TX6) (N := 7) h15 rfl in_X6 (by decide) wd152) ?_
  refine ac (s_iconst (M := M_Tk_move) (pc := 18) h18 rfl) ?_
  refine ac (s_iadd (M := M_Tk_move) (pc := 19) h19) ?_
  refine ac (s_puti (M := M_Tk_move) (pc := 20) (T := TX6) (N := 7) (ty0 := tyX6) h20 ⟨rfl, in_X6, by decide, wd152, tyX6_ok, nmX6, (Or.inl rfl)⟩ rfl) ?_
  refine ac (s_vret (M := M_Tk_move) (pc := 23) h23 rfl) ?_
  exact ac_nil
theorem e0_Se_modulusError : decode prog_7_method_4_code 0 = .ok (.aload_n 0, 1) ∧ decode prog_7_method_4_code 1 = .ok (.getfield 12, 3) ∧ decode prog_7_method_4_code 4 = .ok (.invokevirtual 56, 3) ∧ decode prog_7_method_4_code 7 = .ok (.istore_n 2, 1) ∧ decode prog_7_method_4_code 8 = .ok (.aload_n 0, 1) ∧ decode prog_7_method_4_code 9 = .ok (.getfield 12, 3) ∧ decode prog_7_method_4_code 12 = .ok (.invokevirtual 45, 3) ∧ decode prog_7_method_4_code 15 = .ok (.sipush 258, 3) ∧ decode prog_7_method_4_code 18 = .ok (.if_icmp .eq 5, 3) ∧ decode prog_7_method_4_code 21 = .ok (.iconst 1, 1) ∧ decode prog_7_method_4_code 22 = .ok (.ireturn, 1) ∧ decode prog_7_method_4_code 23 = .ok (.iload_n 2, 1) := by decide +kernel
theorem e1_Se_modulusError : decode prog_7_method_4_code 24 = .ok (.iconst 2, 1) ∧ decode prog_7_method_4_code 25 = .ok (.if_icmp .lt 17, 3) ∧ decode prog_7_method_4_code 28 = .ok (.iload_n 2, 1) ∧ decode prog_7_method_4_code 29 = .ok (.bipush 97, 2) ∧ decode prog_7_method_4_code 31 = .ok (.if_icmp .gt 11, 3) ∧ decode prog_7_method_4_code 34 = .ok (.aload_n 1, 1) ∧ decode prog_7_method_4_code 35 = .ok (.iload_n 2, 1) ∧ decode prog_7_method_4_code 36 = .ok (.invokevirtual 68, 3) ∧ decode prog_7_method_4_code 39 = .ok (.ifCond .eq 5, 3) ∧ decode prog_7_method_4_code 42 = .ok (.iconst 2, 1) ∧ decode prog_7_method_4_code 43 = .ok (.ireturn, 1) ∧ decode prog_7_method_4_code 44 = .ok (.aload_n 1, 1) := by decide +kernel
theorem e2_Se_modulusError : decode prog_7_method_4_code 45 = .ok (.iload_n 2, 1) ∧ decode prog_7_method_4_code 46 = .ok (.invokevirtual 71, 3) ∧ decode prog_7_method_4_code 49 = .ok (.ifCond .eq 5, 3) ∧ decode prog_7_method_4_code 52 = .ok (.iconst 4, 1) ∧ decode prog_7_method_4_code 53 = .ok (.ireturn, 1) ∧ decode prog_7_method_4_code 54 = .ok (.aload_n 1, 1) ∧ decode prog_7_method_4_code 55 = .ok (.getfield 74, 3) ∧ decode prog_7_method_4_code 58 = .ok (.bipush 6, 2) ∧ decode prog_7_method_4_code 60 = .ok (.if_icmp .ge 7, 3) ∧ decode prog_7_method_4_code 63 = .ok (.iconst 0, 1) ∧ decode prog_7_method_4_code 64 = .ok (.goto 4, 3) ∧ decode prog_7_method_4_code 67 = .ok (.iconst 5, 1) := by decide +kernel
theorem e3_Se_modulusError : decode prog_7_method_4_code 68 = .ok (.ireturn, 1) := by decide +kernel
def T_Se_modulusError : TT := [(0, o_ald 0 1), (1, o_get 5 0 4), (4, o_callV M_Tk_amount 4 1 7), (7, o_ist 2 8), (8, o_ald 0 9), (9, o_get 5 0 12), (12, o_callV M_Tk_kind 4 1 15), (15, o_push (.int (iI (258))) 18), (18, o_icmp_eq 23 21), (21, o_push (.int (iI (1))) 22), (22, o_iret), (23, o_ild 2 24), (24, o_push (.int (iI (2))) 25), (25, o_icmp_lt 42 28), (28, o_ild 2 29), (29, o_push (.int (iI (97))) 31), (31, o_icmp_gt 42 34), (34, o_ald 1 35), (35, o_ild 2 36), (36, o_callV M_Mo_tooGreatWith 2 2 39), (39, o_if_eq 44 42), (42, o_push (.int (iI (2))) 43), (43, o_iret), (44, o_ald 1 45), (45, o_ild 2 46), (46, o_callV M_Mo_hasCommonWith 2 2 49), (49, o_if_eq 54 52), (52, o_push (.int (iI (4))) 53), (53, o_iret), (54, o_ald 1 55), (55, o_get 2 2 58), (58, o_push (.int (iI (6))) 60), (60, o_icmp_ge 67 63), (63, o_push (.int (iI (0))) 64), (64, o_goto 68), (67, o_push (.int (iI (5))) 68), (68, o_iret)]
theorem k_Se_modulusError : ∀ x ∈ T_Se_modulusError, SO M_Se_modulusError x.1 x.2 := by
  obtain ⟨h0, h1, h4, h7, h8, h9, h12, h15, h18, h21, h22, h23⟩ := e0_Se_modulusError
  obtain ⟨h24, h25, h28, h29, h31, h34, h35, h36, h39, h42, h43, h44⟩ := e1_Se_modulusError
  obtain ⟨h45, h46, h49, h52, h53, h54, h55, h58, h60, h63, h64, h67⟩ := e2_Se_modulusError
  have h68 := e3_Se_modulusError
  refine ac (s_aldn (M := M_Se_modulusError) (pc := 0) (k := 0) h0) ?_
  refine ac (s_get (M := M_Se_modulusError) (pc := 1) (T := TX5) (N := 1) h1 rfl in_X5 (by decide) wd172) ?_
  refine ac (s_callV (M := M_Se_modulusError) (pc := 4) (tz_Se rfl) h4 q_Tk_amount wd879 wd880 wd881 rfl (T := TX6) (N := 7) rfl) ?_
  refine ac (s_istn (M := M_Se_modulusError) (pc := 7) (k := 2) h7 (by decide)) ?_
  refine ac (s_aldn (M := M_Se_modulusError) (pc := 8) (k := 0) h8) ?_
  refine ac (s_get (M := M_Se_modulusError) (pc := 9) (T := TX5) (N := 1) h9 rfl in_X5 (by decide) wd172) ?_
  refine ac (s_callV (M := M_Se_modulusError) (pc := 12) (tz_Se rfl) h12 q_Tk_kind wd874 wd863 wd864 rfl (T := TX6) (N := 7) rfl) ?_
  refine ac (s_sipush (M := M_Se_modulusError) (pc := 15) h15 (by decide)) ?_
  refine ac (s_icmp_eq (M := M_Se_modulusError) (pc := 18) h18 (by decide)) ?_
  refine ac (s_iconst (M := M_Se_modulusError) (pc := 21) h21 rfl) ?_
  refine ac (s_iret (M := M_Se_modulusError) (pc := 22) h22 rfl) ?_
  refine ac (s_ildn (M := M_Se_modulusError) (pc := 23) (k := 2) h23) ?_
  refine ac (s_iconst (M := M_Se_modulusError) (pc := 24) h24 rfl) ?_
  refine ac (s_icmp_lt (M := M_Se_modulusError) (pc := 25) h25 (by decide)) ?_
  refine ac (s_ildn (M := M_Se_modulusError) (pc := 28) (k := 2) h28) ?_
  refine ac (s_bipush (M := M_Se_modulusError) (pc := 29) h29 (by decide)) ?_
  refine ac (s_icmp_gt (M := M_Se_modulusError) (pc := 31) h31 (by decide)) ?_
  refine ac (s_aldn (M := M_Se_modulusError) (pc := 34) (k := 1) h34) ?_
  refine ac (s_ildn (M := M_Se_modulusError) (pc := 35) (k := 2) h35) ?_
  refine ac (s_callV (M := M_Se_modulusError) (pc := 36) (tz_Se rfl) h36 q_Mo_tooGreatWith wd883 wd884 wd885 rfl (T := TX2) (N := 6) rfl) ?_
  refine ac (s_if_eq (M := M_Se_modulusError) (pc := 39) h39 (by decide)) ?_
  refine ac (s_iconst (M := M_Se_modulusError) (pc := 42) h42 rfl) ?_
  refine ac (s_iret (M := M_Se_modulusError) (pc := 43) h43 rfl) ?_
  refine ac (s_aldn (M := M_Se_modulusError) (pc := 44) (k := 1) h44) ?_
  refine ac (s_ildn (M := M_Se_modulusError) (pc := 45) (k := 2) h45) ?_
  refine ac (s_callV (M := M_Se_modulusError) (pc := 46) (tz_Se rfl) h46 q_Mo_hasCommonWith wd888 wd889 wd890 rfl (T := TX2) (N := 6) rfl) ?_
  refine ac (s_if_eq (M := M_Se_modulusError) (pc := 49) h49 (by decide)) ?_
  refine ac (s_iconst (M := M_Se_modulusError) (pc := 52) h52 rfl) ?_
  refine ac (s_iret (M := M_Se_modulusError) (pc := 53) h53 rfl) ?_
  refine ac (s_aldn (M := M_Se_modulusError) (pc := 54) (k := 1) h54) ?_
  refine ac (s_get (M := M_Se_modulusError) (pc := 55) (T := TX2) (N := 6) h55 rfl in_X2 (by decide) wd73) ?_
  refine ac (s_bipush (M := M_Se_modulusError) (pc := 58) h58 (by decide)) ?_
  refine ac (s_icmp_ge (M := M_Se_modulusError) (pc := 60) h60 (by decide)) ?_
  refine ac (s_iconst (M := M_Se_modulusError) (pc := 63) h63 rfl) ?_
  refine ac (s_goto (M := M_Se_modulusError) (pc := 64) h64 (by decide)) ?_
  refine ac (s_iconst (M := M_Se_modulusError) (pc := 67) h67 rfl) ?_
  refine ac (s_iret (M := M_Se_modulusError) (pc := 68) h68 rfl) ?_
  exact ac_nil
theorem e0_Tk_amount : decode prog_8_method_4_code 0 = .ok (.aload_n 0, 1) ∧ decode prog_8_method_4_code 1 = .ok (.getfield 31, 3) ∧ decode prog_8_method_4_code 4 = .ok (.ifCond .lt 26, 3) ∧ decode prog_8_method_4_code 7 = .ok (.aload_n 0, 1) ∧ decode prog_8_method_4_code 8 = .ok (.getfield 31, 3) ∧ decode prog_8_method_4_code 11 = .ok (.aload_n 0, 1) ∧ decode prog_8_method_4_code 12 = .ok (.getfield 28, 3) ∧ decode prog_8_method_4_code 15 = .ok (.if_icmp .ge 15, 3) ∧ decode prog_8_method_4_code 18 = .ok (.aload_n 0, 1) ∧ decode prog_8_method_4_code 19 = .ok (.getfield 31, 3) ∧ decode prog_8_method_4_code 22 = .ok (.aload_n 0, 1) ∧ decode prog_8_method_4_code 23 = .ok (.getfield 15, 3) := by decide +kernel
theorem e1_Tk_amount : decode prog_8_method_4_code 26 = .ok (.arraylength, 1) ∧ decode prog_8_method_4_code 27 = .ok (.if_icmp .lt 7, 3) ∧ decode prog_8_method_4_code 30 = .ok (.iconst 0, 1) ∧ decode prog_8_method_4_code 31 = .ok (.goto 12, 3) ∧ decode prog_8_method_4_code 34 = .ok (.aload_n 0, 1) ∧ decode prog_8_method_4_code 35 = .ok (.getfield 15, 3) ∧ decode prog_8_method_4_code 38 = .ok (.aload_n 0, 1) ∧ decode prog_8_method_4_code 39 = .ok (.getfield 31, 3) ∧ decode prog_8_method_4_code 42 = .ok (.iaload, 1) ∧ decode prog_8_method_4_code 43 = .ok (.ireturn, 1) := by decide +kernel
def T_Tk_amount : TT := [(0, o_ald 0 1), (1, o_get 4 4 4), (4, o_if_lt 30 7), (7, o_ald 0 8), (8, o_get 4 4 11), (11, o_ald 0 12), (12, o_get 4 3 15), (15, o_icmp_ge 30 18), (18, o_ald 0 19), (19, o_get 4 4 22), (22, o_ald 0 23), (23, o_get 4 1 26), (26, o_alen 27), (27, o_icmp_lt 34 30), (30, o_push (.int (iI (0))) 31), (31, o_goto 43), (34, o_ald 0 35), (35, o_get 4 1 38), (38, o_ald 0 39), (39, o_get 4 4 42), (42, o_iald 43), (43, o_iret)]
theorem k_Tk_amount : ∀ x ∈ T_Tk_amount, SO M_Tk_amount x.1 x.2 := by
  obtain ⟨h0, h1, h4, h7, h8, h11, h12, h15, h18, h19, h22, h23⟩ := e0_Tk_amount
  obtain ⟨h26, h27, h30, h31, h34, h35, h38, h39, h42, h43⟩ := e1_Tk_amount
  refine ac (s_aldn (M := M_Tk_amount) (pc := 0) (k := 0) h0) ?_
  refine ac (s_get (M := M_Tk_amount) (pc := 1) (T := TX6) (N := 7) h1 rfl in_X6 (by decide) wd152) ?_
  refine ac (s_if_lt (M := M_Tk_amount) (pc := 4) h4 (by decide)) ?_
  refine ac (s_aldn (M := M_Tk_amount) (pc := 7) (k := 0) h7) ?_
  refine ac (s_get (M := M_Tk_amount) (pc := 8) (T := TX6) (N := 7) h8 rfl in_X6 (by decide) wd152) ?_
  refine ac (s_aldn (M := M_Tk_amount) (pc := 11) (k := 0) h11) ?_
  refine ac (s_get (M := M_Tk_amount) (pc := 12) (T := TX6) (N := 7) h12 rfl in_X6 (by decide) wd151) ?_
  refine ac (s_icmp_ge (M := M_Tk_amount) (pc := 15) h15 (by decide)) ?_
  refine ac (s_aldn (M := M_Tk_amount) (pc := 18) (k := 0) h18) ?_
  refine ac (s_get (M := M_Tk_amount) (pc := 19) (T := TX6) (N := 7) h19 rfl in_X6 (by decide) wd152) ?_
  refine ac (s_aldn (M := M_Tk_amount) (pc := 22) (k := 0) h22) ?_
  refine ac (s_get (M := M_Tk_amount) (pc := 23) (T := TX6) (N := 7) h23 rfl in_X6 (by decide) wd149) ?_
  refine ac (s_alen (M := M_Tk_amount) (pc := 26) h26) ?_
  refine ac (s_icmp_lt (M := M_Tk_amount) (pc := 27) h27 (by decide)) ?_
  refine ac (s_iconst (M := M_Tk_amount) (pc := 30) h30 rfl) ?_
  refine ac (s_goto (M := M_Tk_amount) (pc := 31) h31 (by decide)) ?_
  refine ac (s_aldn (M := M_Tk_amount) (pc := 34) (k := 0) h34) ?_
  refine ac (s_get (M := M_Tk_amount) (pc := 35) (T := TX6) (N := 7) h35 rfl in_X6 (by decide) wd149) ?_
  refine ac (s_aldn (M := M_Tk_amount) (pc := 38) (k := 0) h38) ?_
  refine ac (s_get (M := M_Tk_amount) (pc := 39) (T := TX6) (N := 7) h39 rfl in_X6 (by decide) wd152) ?_
  refine ac (s_iald (M := M_Tk_amount) (pc := 42) h42) ?_
  refine ac (s_iret (M := M_Tk_amount) (pc := 43) h43 rfl) ?_
  exact ac_nil
theorem e0_Se_readChecks : decode prog_7_method_5_code 0 = .ok (.aload_n 0, 1) ∧ decode prog_7_method_5_code 1 = .ok (.getfield 12, 3) ∧ decode prog_7_method_5_code 4 = .ok (.invokevirtual 45, 3) ∧ decode prog_7_method_5_code 7 = .ok (.sipush 261, 3) ∧ decode prog_7_method_5_code 10 = .ok (.if_icmp .eq 5, 3) ∧ decode prog_7_method_5_code 13 = .ok (.iconst 1, 1) ∧ decode prog_7_method_5_code 14 = .ok (.ireturn, 1) ∧ decode prog_7_method_5_code 15 = .ok (.aload_n 0, 1) ∧ decode prog_7_method_5_code 16 = .ok (.getfield 12, 3) ∧ decode prog_7_method_5_code 19 = .ok (.invokevirtual 65, 3) ∧ decode prog_7_method_5_code 22 = .ok (.aload_n 0, 1) ∧ decode prog_7_method_5_code 23 = .ok (.getfield 12, 3) := by decide +kernel
theorem e1_Se_readChecks : decode prog_7_method_5_code 26 = .ok (.invokevirtual 56, 3) ∧ decode prog_7_method_5_code 29 = .ok (.istore_n 2, 1) ∧ decode prog_7_method_5_code 30 = .ok (.aload_n 0, 1) ∧ decode prog_7_method_5_code 31 = .ok (.getfield 12, 3) ∧ decode prog_7_method_5_code 34 = .ok (.iconst 2, 1) ∧ decode prog_7_method_5_code 35 = .ok (.aload_n 1, 1) ∧ decode prog_7_method_5_code 36 = .ok (.getfield 74, 3) ∧ decode prog_7_method_5_code 39 = .ok (.iconst 1, 1) ∧ decode prog_7_method_5_code 40 = .ok (.isub, 1) ∧ decode prog_7_method_5_code 41 = .ok (.invokestatic 78, 3) ∧ decode prog_7_method_5_code 44 = .ok (.i2l, 1) ∧ decode prog_7_method_5_code 45 = .ok (.invokevirtual 84, 3) := by decide +kernel
theorem e2_Se_readChecks : decode prog_7_method_5_code 48 = .ok (.ifCond .ne 5, 3) ∧ decode prog_7_method_5_code 51 = .ok (.iconst 0, 1) ∧ decode prog_7_method_5_code 52 = .ok (.ireturn, 1) ∧ decode prog_7_method_5_code 53 = .ok (.aload_n 1, 1) ∧ decode prog_7_method_5_code 54 = .ok (.iload_n 2, 1) ∧ decode prog_7_method_5_code 55 = .ok (.invokevirtual 88, 3) ∧ decode prog_7_method_5_code 58 = .ok (.aload_n 0, 1) ∧ decode prog_7_method_5_code 59 = .ok (.getfield 12, 3) ∧ decode prog_7_method_5_code 62 = .ok (.bipush 59, 2) ∧ decode prog_7_method_5_code 64 = .ok (.invokevirtual 41, 3) ∧ decode prog_7_method_5_code 67 = .ok (.ireturn, 1) := by decide +kernel
def T_Se_readChecks : TT := [(0, o_ald 0 1), (1, o_get 5 0 4), (4, o_callV M_Tk_kind 4 1 7), (7, o_push (.int (iI (261))) 10), (10, o_icmp_eq 15 13), (13, o_push (.int (iI (1))) 14), (14, o_zret), (15, o_ald 0 16), (16, o_get 5 0 19), (19, o_callV M_Tk_move 4 1 22), (22, o_ald 0 23), (23, o_get 5 0 26), (26, o_callV M_Tk_amount 4 1 29), (29, o_ist 2 30), (30, o_ald 0 31), (31, o_get 5 0 34), (34, o_push (.int (iI (2))) 35), (35, o_ald 1 36), (36, o_get 2 2 39), (39, o_push (.int (iI (1))) 40), (40, o_isub 41), (41, o_call M_jMath_min 2 44), (44, o_i2l 45), (45, o_callV M_Tk_takeUpTo 4 2 48), (48, o_if_ne 53 51), (51, o_push (.int (iI (0))) 52), (52, o_zret), (53, o_ald 1 54), (54, o_ild 2 55), (55, o_callV M_Mo_setChecks 2 2 58), (58, o_ald 0 59), (59, o_get 5 0 62), (62, o_push (.int (iI (59))) 64), (64, o_callV M_Tk_take 4 2 67), (67, o_zret)]
theorem k_Se_readChecks : ∀ x ∈ T_Se_readChecks, SO M_Se_readChecks x.1 x.2 := by
  obtain ⟨h0, h1, h4, h7, h10, h13, h14, h15, h16, h19, h22, h23⟩ := e0_Se_readChecks
  obtain ⟨h26, h29, h30, h31, h34, h35, h36, h39, h40, h41, h44, h45⟩ := e1_Se_readChecks
  obtain ⟨h48, h51, h52, h53, h54, h55, h58, h59, h62, h64, h67⟩ := e2_Se_readChecks
  refine ac (s_aldn (M := M_Se_readChecks) (pc := 0) (k := 0) h0) ?_
  refine ac (s_get (M := M_Se_readChecks) (pc := 1) (T := TX5) (N := 1) h1 rfl in_X5 (by decide) wd172) ?_
  refine ac (s_callV (M := M_Se_readChecks) (pc := 4) (tz_Se rfl) h4 q_Tk_kind wd874 wd863 wd864 rfl (T := TX6) (N := 7) rfl) ?_
  refine ac (s_sipush (M := M_Se_readChecks) (pc := 7) h7 (by decide)) ?_
  refine ac (s_icmp_eq (M := M_Se_readChecks) (pc := 10) h10 (by decide)) ?_
  refine ac (s_iconst (M := M_Se_readChecks) (pc := 13) h13 rfl) ?_
  refine ac (s_zret (M := M_Se_readChecks) (pc := 14) h14 rfl) ?_
  refine ac (s_aldn (M := M_Se_readChecks) (pc := 15) (k := 0) h15) ?_
  refine ac (s_get (M := M_Se_readChecks) (pc := 16) (T := TX5) (N := 1) h16 rfl in_X5 (by decide) wd172) ?_
  refine ac (s_callV (M := M_Se_readChecks) (pc := 19) (tz_Se rfl) h19 q_Tk_move wd897 wd871 wd872 rfl (T := TX6) (N := 7) rfl) ?_
  refine ac (s_aldn (M := M_Se_readChecks) (pc := 22) (k := 0) h22) ?_
  refine ac (s_get (M := M_Se_readChecks) (pc := 23) (T := TX5) (N := 1) h23 rfl in_X5 (by decide) wd172) ?_
  refine ac (s_callV (M := M_Se_readChecks) (pc := 26) (tz_Se rfl) h26 q_Tk_amount wd879 wd880 wd881 rfl (T := TX6) (N := 7) rfl) ?_
  refine ac (s_istn (M := M_Se_readChecks) (pc := 29) (k := 2) h29 (by decide)) ?_
  refine ac (s_aldn (M := M_Se_readChecks) (pc := 30) (k := 0) h30) ?_
  refine ac (s_get (M := M_Se_readChecks) (pc := 31) (T := TX5) (N := 1) h31 rfl in_X5 (by decide) wd172) ?_
  refine ac (s_iconst (M := M_Se_readChecks) (pc := 34) h34 rfl) ?_
  refine ac (s_aldn (M := M_Se_readChecks) (pc := 35) (k := 1) h35) ?_
  refine ac (s_get (M := M_Se_readChecks) (pc := 36) (T := TX2) (N := 6) h36 rfl in_X2 (by decide) wd73) ?_
  refine ac (s_iconst (M := M_Se_readChecks) (pc := 39) h39 rfl) ?_
  refine ac (s_isub (M := M_Se_readChecks) (pc := 40) h40) ?_
  refine ac (s_callS (M := M_Se_readChecks) (pc := 41) (tz_Se rfl) h41 q_jMath_min wd902 wd612) ?_
  refine ac (s_i2l (M := M_Se_readChecks) (pc := 44) h44) ?_
  refine ac (s_callV (M := M_Se_readChecks) (pc := 45) (tz_Se rfl) h45 q_Tk_takeUpTo wd903 wd904 wd905 rfl (T := TX6) (N := 7) rfl) ?_
  refine ac (s_if_ne (M := M_Se_readChecks) (pc := 48) h48 (by decide)) ?_
  refine ac (s_iconst (M := M_Se_readChecks) (pc := 51) h51 rfl) ?_
  refine ac (s_zret (M := M_Se_readChecks) (pc := 52) h52 rfl) ?_
  refine ac (s_aldn (M := M_Se_readChecks) (pc := 53) (k := 1) h53) ?_
  refine ac (s_ildn (M := M_Se_readChecks) (pc := 54) (k := 2) h54) ?_
  refine ac (s_callV (M := M_Se_readChecks) (pc := 55) (tz_Se rfl) h55 q_Mo_setChecks wd908 wd282 wd283 rfl (T := TX2) (N := 6) rfl) ?_
  refine ac (s_aldn (M := M_Se_readChecks) (pc := 58) (k := 0) h58) ?_
  refine ac (s_get (M := M_Se_readChecks) (pc := 59) (T := TX5) (N := 1) h59 rfl in_X5 (by decide) wd172) ?_
  refine ac (s_bipush (M := M_Se_readChecks) (pc := 62) h62 (by decide)) ?_
  refine ac (s_callV (M := M_Se_readChecks) (pc := 64) (tz_Se rfl) h64 q_Tk_take wd858 wd859 wd860 rfl (T := TX6) (N := 7) rfl) ?_
  refine ac (s_zret (M := M_Se_readChecks) (pc := 67) h67 rfl) ?_
  exact ac_nil
theorem e0_Tk_takeUpTo : decode prog_8_method_7_code 0 = .ok (.aload_n 0, 1) ∧ decode prog_8_method_7_code 1 = .ok (.invokevirtual 42, 3) ∧ decode prog_8_method_7_code 4 = .ok (.sipush 258, 3) ∧ decode prog_8_method_7_code 7 = .ok (.if_icmp .eq 9, 3) ∧ decode prog_8_method_7_code 10 = .ok (.aload_n 0, 1) ∧ decode prog_8_method_7_code 11 = .ok (.iconst 1, 1) ∧ decode prog_8_method_7_code 12 = .ok (.invokevirtual 46, 3) ∧ decode prog_8_method_7_code 15 = .ok (.ireturn, 1) ∧ decode prog_8_method_7_code 16 = .ok (.aload_n 0, 1) ∧ decode prog_8_method_7_code 17 = .ok (.invokevirtual 53, 3) ∧ decode prog_8_method_7_code 20 = .ok (.i2l, 1) ∧ decode prog_8_method_7_code 21 = .ok (.lload_n 1, 1) := by decide +kernel
theorem e1_Tk_takeUpTo : decode prog_8_method_7_code 22 = .ok (.lcmp, 1) ∧ decode prog_8_method_7_code 23 = .ok (.ifCond .le 9, 3) ∧ decode prog_8_method_7_code 26 = .ok (.aload_n 0, 1) ∧ decode prog_8_method_7_code 27 = .ok (.iconst 2, 1) ∧ decode prog_8_method_7_code 28 = .ok (.invokevirtual 46, 3) ∧ decode prog_8_method_7_code 31 = .ok (.ireturn, 1) ∧ decode prog_8_method_7_code 32 = .ok (.aload_n 0, 1) ∧ decode prog_8_method_7_code 33 = .ok (.invokevirtual 50, 3) ∧ decode prog_8_method_7_code 36 = .ok (.iconst 1, 1) ∧ decode prog_8_method_7_code 37 = .ok (.ireturn, 1) := by decide +kernel
def T_Tk_takeUpTo : TT := [(0, o_ald 0 1), (1, o_callV M_Tk_kind 4 1 4), (4, o_push (.int (iI (258))) 7), (7, o_icmp_eq 16 10), (10, o_ald 0 11), (11, o_push (.int (iI (1))) 12), (12, o_callV M_Tk_fail 4 2 15), (15, o_zret), (16, o_ald 0 17), (17, o_callV M_Tk_amount 4 1 20), (20, o_i2l 21), (21, o_lld 1 22), (22, o_lc_le 32 26), (26, o_ald 0 27), (27, o_push (.int (iI (2))) 28), (28, o_callV M_Tk_fail 4 2 31), (31, o_zret), (32, o_ald 0 33), (33, o_callV M_Tk_move 4 1 36), (36, o_push (.int (iI (1))) 37), (37, o_zret)]
theorem k_Tk_takeUpTo : ∀ x ∈ T_Tk_takeUpTo, SO M_Tk_takeUpTo x.1 x.2 := by
  obtain ⟨h0, h1, h4, h7, h10, h11, h12, h15, h16, h17, h20, h21⟩ := e0_Tk_takeUpTo
  obtain ⟨h22, h23, h26, h27, h28, h31, h32, h33, h36, h37⟩ := e1_Tk_takeUpTo
  refine ac (s_aldn (M := M_Tk_takeUpTo) (pc := 0) (k := 0) h0) ?_
  refine ac (s_callV (M := M_Tk_takeUpTo) (pc := 1) (tz_Tk rfl) h1 q_Tk_kind wd862 wd863 wd864 rfl (T := TX6) (N := 7) rfl) ?_
  refine ac (s_sipush (M := M_Tk_takeUpTo) (pc := 4) h4 (by decide)) ?_
  refine ac (s_icmp_eq (M := M_Tk_takeUpTo) (pc := 7) h7 (by decide)) ?_
  refine ac (s_aldn (M := M_Tk_takeUpTo) (pc := 10) (k := 0) h10) ?_
  refine ac (s_iconst (M := M_Tk_takeUpTo) (pc := 11) h11 rfl) ?_
  refine ac (s_callV (M := M_Tk_takeUpTo) (pc := 12) (tz_Tk rfl) h12 q_Tk_fail wd866 wd867 wd868 rfl (T := TX6) (N := 7) rfl) ?_
  refine ac (s_zret (M := M_Tk_takeUpTo) (pc := 15) h15 rfl) ?_
  refine ac (s_aldn (M := M_Tk_takeUpTo) (pc := 16) (k := 0) h16) ?_
  refine ac (s_callV (M := M_Tk_takeUpTo) (pc := 17) (tz_Tk rfl) h17 q_Tk_amount wd907 wd880 wd881 rfl (T := TX6) (N := 7) rfl) ?_
  refine ac (s_i2l (M := M_Tk_takeUpTo) (pc := 20) h20) ?_
  refine ac (s_lldn (M := M_Tk_takeUpTo) (pc := 21) (k := 1) h21) ?_
  refine ac (s_lc_le (M := M_Tk_takeUpTo) (pc := 22) h22 h23 (by decide)) ?_
  refine ac (s_aldn (M := M_Tk_takeUpTo) (pc := 26) (k := 0) h26) ?_
  refine ac (s_iconst (M := M_Tk_takeUpTo) (pc := 27) h27 rfl) ?_
  refine ac (s_callV (M := M_Tk_takeUpTo) (pc := 28) (tz_Tk rfl) h28 q_Tk_fail wd866 wd867 wd868 rfl (T := TX6) (N := 7) rfl) ?_
  refine ac (s_zret (M := M_Tk_takeUpTo) (pc := 31) h31 rfl) ?_
  refine ac (s_aldn (M := M_Tk_takeUpTo) (pc := 32) (k := 0) h32) ?_
  refine ac (s_callV (M := M_Tk_takeUpTo) (pc := 33) (tz_Tk rfl) h33 q_Tk_move wd870 wd871 wd872 rfl (T := TX6) (N := 7) rfl) ?_
  refine ac (s_iconst (M := M_Tk_takeUpTo) (pc := 36) h36 rfl) ?_
  refine ac (s_zret (M := M_Tk_takeUpTo) (pc := 37) h37 rfl) ?_
  exact ac_nil
theorem e0_Se_readStrict : decode prog_7_method_6_code 0 = .ok (.aload_n 0, 1) ∧ decode prog_7_method_6_code 1 = .ok (.getfield 12, 3) ∧ decode prog_7_method_6_code 4 = .ok (.invokevirtual 45, 3) ∧ decode prog_7_method_6_code 7 = .ok (.sipush 262, 3) ∧ decode prog_7_method_6_code 10 = .ok (.if_icmp .eq 5, 3) ∧ decode prog_7_method_6_code 13 = .ok (.iconst 1, 1) ∧ decode prog_7_method_6_code 14 = .ok (.ireturn, 1) ∧ decode prog_7_method_6_code 15 = .ok (.aload_n 0, 1) ∧ decode prog_7_method_6_code 16 = .ok (.getfield 12, 3) ∧ decode prog_7_method_6_code 19 = .ok (.invokevirtual 65, 3) ∧ decode prog_7_method_6_code 22 = .ok (.aload_n 1, 1) ∧ decode prog_7_method_6_code 23 = .ok (.aload_n 0, 1) := by decide +kernel
theorem e1_Se_readStrict : decode prog_7_method_6_code 24 = .ok (.getfield 12, 3) ∧ decode prog_7_method_6_code 27 = .ok (.invokevirtual 56, 3) ∧ decode prog_7_method_6_code 30 = .ok (.putfield 91, 3) ∧ decode prog_7_method_6_code 33 = .ok (.aload_n 0, 1) ∧ decode prog_7_method_6_code 34 = .ok (.getfield 12, 3) ∧ decode prog_7_method_6_code 37 = .ok (.lconst 1, 1) ∧ decode prog_7_method_6_code 38 = .ok (.invokevirtual 84, 3) ∧ decode prog_7_method_6_code 41 = .ok (.ifCond .eq 19, 3) ∧ decode prog_7_method_6_code 44 = .ok (.aload_n 0, 1) ∧ decode prog_7_method_6_code 45 = .ok (.getfield 12, 3) ∧ decode prog_7_method_6_code 48 = .ok (.bipush 59, 2) ∧ decode prog_7_method_6_code 50 = .ok (.invokevirtual 41, 3) := by decide +kernel
theorem e2_Se_readStrict : decode prog_7_method_6_code 53 = .ok (.ifCond .eq 7, 3) ∧ decode prog_7_method_6_code 56 = .ok (.iconst 1, 1) ∧ decode prog_7_method_6_code 57 = .ok (.goto 4, 3) ∧ decode prog_7_method_6_code 60 = .ok (.iconst 0, 1) ∧ decode prog_7_method_6_code 61 = .ok (.ireturn, 1) := by decide +kernel
def T_Se_readStrict : TT := [(0, o_ald 0 1), (1, o_get 5 0 4), (4, o_callV M_Tk_kind 4 1 7), (7, o_push (.int (iI (262))) 10), (10, o_icmp_eq 15 13), (13, o_push (.int (iI (1))) 14), (14, o_zret), (15, o_ald 0 16), (16, o_get 5 0 19), (19, o_callV M_Tk_move 4 1 22), (22, o_ald 1 23), (23, o_ald 0 24), (24, o_get 5 0 27), (27, o_callV M_Tk_amount 4 1 30), (30, o_puti 1 3 33), (33, o_ald 0 34), (34, o_get 5 0 37), (37, o_push (.long (lI 1)) 38), (38, o_callV M_Tk_takeUpTo 4 2 41), (41, o_if_eq 60 44), (44, o_ald 0 45), (45, o_get 5 0 48), (48, o_push (.int (iI (59))) 50), (50, o_callV M_Tk_take 4 2 53), (53, o_if_eq 60 56), (56, o_push (.int (iI (1))) 57), (57, o_goto 61), (60, o_push (.int (iI (0))) 61), (61, o_zret)]
theorem k_Se_readStrict : ∀ x ∈ T_Se_readStrict, SO M_Se_readStrict x.1 x.2 := by
  obtain ⟨h0, h1, h4, h7, h10, h13, h14, h15, h16, h19, h22, h23⟩ := e0_Se_readStrict
  obtain ⟨h24, h27, h30, h33, h34, h37, h38, h41, h44, h45, h48, h50⟩ := e1_Se_readStrict
  obtain ⟨h53, h56, h57, h60, h61⟩ := e2_Se_readStrict
  refine ac (s_aldn (M := M_Se_readStrict) (pc := 0) (k := 0) h0) ?_
  refine ac (s_get (M := M_Se_readStrict) (pc := 1) (T := TX5) (N := 1) h1 rfl in_X5 (by decide) wd172) ?_
  refine ac (s_callV (M := M_Se_readStrict) (pc := 4) (tz_Se rfl) h4 q_Tk_kind wd874 wd863 wd864 rfl (T := TX6) (N := 7) rfl) ?_
  refine ac (s_sipush (M := M_Se_readStrict) (pc := 7) h7 (by decide)) ?_
  refine ac (s_icmp_eq (M := M_Se_readStrict) (pc := 10) h10 (by decide)) ?_
  refine ac (s_iconst (M := M_Se_readStrict) (pc := 13) h13 rfl) ?_
  refine ac (s_zret (M := M_Se_readStrict) (pc := 14) h14 rfl) ?_
  refine ac (s_aldn (M := M_Se_readStrict) (pc := 15) (k := 0) h15) ?_
  refine ac (s_get (M := M_Se_readStrict) (pc := 16) (T := TX5) (N := 1) h16 rfl in_X5 (by decide) wd172) ?_
  refine ac (s_callV (M := M_Se_readStrict) (pc := 19) (tz_Se rfl) h19 q_Tk_move wd897 wd871 wd872 rfl (T := TX6) (N := 7) rfl) ?_
  refine ac (s_aldn (M := M_Se_readStrict) (pc := 22) (k := 1) h22) ?_
  refine ac (s_aldn (M := M_Se_readStrict) (pc := 23) (k := 0) h23) ?_
  refine ac (s_get (M := M_Se_readStrict) (pc := 24) (T := TX5) (N := 1) h24 rfl in_X5 (by decide) wd172) ?_
  refine ac (s_callV (M := M_Se_readStrict) (pc := 27) (tz_Se rfl) h27 q_Tk_amount wd879 wd880 wd881 rfl (T := TX6) (N := 7) rfl) ?_
  refine ac (s_puti (M := M_Se_readStrict) (pc := 30) (T := TX1) (N := 4) (ty0 := tyX1) h30 ⟨rfl, in_X1, by decide, wd105, tyX1_ok, nmX1, (Or.inl rfl)⟩ rfl) ?_
  refine ac (s_aldn (M := M_Se_readStrict) (pc := 33) (k := 0) h33) ?_
  refine ac (s_get (M := M_Se_readStrict) (pc := 34) (T := TX5) (N := 1) h34 rfl in_X5 (by decide) wd172) ?_
  refine ac (s_lconst (M := M_Se_readStrict) (pc := 37) h37 (by decide)) ?_
  refine ac (s_callV (M := M_Se_readStrict) (pc := 38) (tz_Se rfl) h38 q_Tk_takeUpTo wd903 wd904 wd905 rfl (T := TX6) (N := 7) rfl) ?_
  refine ac (s_if_eq (M := M_Se_readStrict) (pc := 41) h41 (by decide)) ?_
  refine ac (s_aldn (M := M_Se_readStrict) (pc := 44) (k := 0) h44) ?_
  refine ac (s_get (M := M_Se_readStrict) (pc := 45) (T := TX5) (N := 1) h45 rfl in_X5 (by decide) wd172) ?_
  refine ac (s_bipush (M := M_Se_readStrict) (pc := 48) h48 (by decide)) ?_
  refine ac (s_callV (M := M_Se_readStrict) (pc := 50) (tz_Se rfl) h50 q_Tk_take wd858 wd859 wd860 rfl (T := TX6) (N := 7) rfl) ?_
  refine ac (s_if_eq (M := M_Se_readStrict) (pc := 53) h53 (by decide)) ?_
  refine ac (s_iconst (M := M_Se_readStrict) (pc := 56) h56 rfl) ?_
  refine ac (s_goto (M := M_Se_readStrict) (pc := 57) h57 (by decide)) ?_
  refine ac (s_iconst (M := M_Se_readStrict) (pc := 60) h60 rfl) ?_
  refine ac (s_zret (M := M_Se_readStrict) (pc := 61) h61 rfl) ?_
  exact ac_nil
theorem e0_Se_readSets : decode prog_7_method_7_code 0 = .ok (.iconst 0, 1) ∧ decode prog_7_method_7_code 1 = .ok (.istore_n 2, 1) ∧ decode prog_7_method_7_code 2 = .ok (.iconst 0, 1) ∧ decode prog_7_method_7_code 3 = .ok (.istore_n 3, 1) ∧ decode prog_7_method_7_code 4 = .ok (.iload_n 3, 1) ∧ decode prog_7_method_7_code 5 = .ok (.bipush 8, 2) ∧ decode prog_7_method_7_code 7 = .ok (.if_icmp .gt 93, 3) ∧ decode prog_7_method_7_code 10 = .ok (.aload_n 0, 1) ∧ decode prog_7_method_7_code 11 = .ok (.getfield 12, 3) ∧ decode prog_7_method_7_code 14 = .ok (.invokevirtual 45, 3) ∧ decode prog_7_method_7_code 17 = .ok (.sipush 263, 3) ∧ decode prog_7_method_7_code 20 = .ok (.if_icmp .ne 80, 3) := by decide +kernel
theorem e1_Se_readSets : decode prog_7_method_7_code 23 = .ok (.aload_n 0, 1) ∧ decode prog_7_method_7_code 24 = .ok (.getfield 12, 3) ∧ decode prog_7_method_7_code 27 = .ok (.invokevirtual 65, 3) ∧ decode prog_7_method_7_code 30 = .ok (.aload_n 0, 1) ∧ decode prog_7_method_7_code 31 = .ok (.getfield 12, 3) ∧ decode prog_7_method_7_code 34 = .ok (.invokevirtual 45, 3) ∧ decode prog_7_method_7_code 37 = .ok (.sipush 259, 3) ∧ decode prog_7_method_7_code 40 = .ok (.if_icmp .eq 12, 3) ∧ decode prog_7_method_7_code 43 = .ok (.aload_n 0, 1) ∧ decode prog_7_method_7_code 44 = .ok (.getfield 12, 3) ∧ decode prog_7_method_7_code 47 = .ok (.iconst 1, 1) ∧ decode prog_7_method_7_code 48 = .ok (.invokevirtual 53, 3) := by decide +kernel
theorem e2_Se_readSets : decode prog_7_method_7_code 51 = .ok (.ireturn, 1) ∧ decode prog_7_method_7_code 52 = .ok (.iconst 1, 1) ∧ decode prog_7_method_7_code 53 = .ok (.aload_n 0, 1) ∧ decode prog_7_method_7_code 54 = .ok (.getfield 12, 3) ∧ decode prog_7_method_7_code 57 = .ok (.invokevirtual 56, 3) ∧ decode prog_7_method_7_code 60 = .ok (.ishl, 1) ∧ decode prog_7_method_7_code 61 = .ok (.istore 4, 2) ∧ decode prog_7_method_7_code 63 = .ok (.iload_n 2, 1) ∧ decode prog_7_method_7_code 64 = .ok (.iload 4, 2) ∧ decode prog_7_method_7_code 66 = .ok (.iand, 1) ∧ decode prog_7_method_7_code 67 = .ok (.ifCond .eq 12, 3) ∧ decode prog_7_method_7_code 70 = .ok (.aload_n 0, 1) := by decide +kernel
theorem e3_Se_readSets : decode prog_7_method_7_code 71 = .ok (.getfield 12, 3) ∧ decode prog_7_method_7_code 74 = .ok (.iconst 3, 1) ∧ decode prog_7_method_7_code 75 = .ok (.invokevirtual 53, 3) ∧ decode prog_7_method_7_code 78 = .ok (.ireturn, 1) ∧ decode prog_7_method_7_code 79 = .ok (.iload_n 2, 1) ∧ decode prog_7_method_7_code 80 = .ok (.iload 4, 2) ∧ decode prog_7_method_7_code 82 = .ok (.ior, 1) ∧ decode prog_7_method_7_code 83 = .ok (.istore_n 2, 1) ∧ decode prog_7_method_7_code 84 = .ok (.aload_n 0, 1) ∧ decode prog_7_method_7_code 85 = .ok (.aload_n 1, 1) ∧ decode prog_7_method_7_code 86 = .ok (.invokevirtual 94, 3) ∧ decode prog_7_method_7_code 89 = .ok (.ifCond .ne 5, 3) := by decide +kernel
theorem e4_Se_readSets : decode prog_7_method_7_code 92 = .ok (.iconst 0, 1) ∧ decode prog_7_method_7_code 93 = .ok (.ireturn, 1) ∧ decode prog_7_method_7_code 94 = .ok (.iinc 3 1, 3) ∧ decode prog_7_method_7_code 97 = .ok (.goto (-93), 3) ∧ decode prog_7_method_7_code 100 = .ok (.aload_n 0, 1) ∧ decode prog_7_method_7_code 101 = .ok (.getfield 12, 3) ∧ decode prog_7_method_7_code 104 = .ok (.sipush 256, 3) ∧ decode prog_7_method_7_code 107 = .ok (.invokevirtual 41, 3) ∧ decode prog_7_method_7_code 110 = .ok (.ireturn, 1) := by decide +kernel
def T_Se_readSets : TT := [(0, o_push (.int (iI (0))) 1), (1, o_ist 2 2), (2, o_push (.int (iI (0))) 3), (3, o_ist 3 4), (4, o_ild 3 5), (5, o_push (.int (iI (8))) 7), (7, o_icmp_gt 100 10), (10, o_ald 0 11), (11, o_get 5 0 14), (14, o_callV M_Tk_kind 4 1 17), (17, o_push (.int (iI (263))) 20), (20, o_icmp_ne 100 23), (23, o_ald 0 24), (24, o_get 5 0 27), (27, o_callV M_Tk_move 4 1 30), (30, o_ald 0 31), (31, o_get 5 0 34), (34, o_callV M_Tk_kind 4 1 37), (37, o_push (.int (iI (259))) 40), (40, o_icmp_eq 52 43), (43, o_ald 0 44), (44, o_get 5 0 47), (47, o_push (.int (iI (1))) 48), (48, o_callV M_Tk_fail 4 2 51), (51, o_zret), (52, o_push (.int (iI (1))) 53), (53, o_ald 0 54), (54, o_get 5 0 57), (57, o_callV M_Tk_amount 4 1 60), (60, o_ishl 61), (61, o_ist 4 63), (63, o_ild 2 64), (64, o_ild 4 66), (66, o_iand 67), (67, o_if_eq 79 70), (70, o_ald 0 71), (71, o_get 5 0 74), (74, o_push (.int (iI (3))) 75), (75, o_callV M_Tk_fail 4 2 78), (78, o_zret), (79, o_ild 2 80), (80, o_ild 4 82), (82, o_ior 83), (83, o_ist 2 84), (84, o_ald 0 85), (85, o_ald 1 86), (86, o_callV M_Se_readSet 5 2 89), (89, o_if_ne 94 92), (92, o_push (.int (iI (0))) 93), (93, o_zret), (94, o_iinc 3 (iI (1)) 97), (97, o_goto 4), (100, o_ald 0 101), (101, o_get 5 0 104), (104, o_push (.int (iI (256))) 107), (107, o_callV M_Tk_take 4 2 110), (110, o_zret)]
theorem k_Se_readSets : ∀ x ∈ T_Se_readSets, SO M_Se_readSets x.1 x.2 := by
  obtain ⟨h0, h1, h2, h3, h4, h5, h7, h10, h11, h14, h17, h20⟩ := e0_Se_readSets
  obtain ⟨h23, h24, h27, h30, h31, h34, h37, h40, h43, h44, h47, h48⟩ := e1_Se_readSets
  obtain ⟨h51, h52, h53, h54, h57, h60, h61, h63, h64, h66, h67, h70⟩ := e2_Se_readSets
  obtain ⟨h71, h74, h75, h78, h79, h80, h82, h83, h84, h85, h86, h89⟩ := e3_Se_readSets
  obtain ⟨h92, h93, h94, h97, h100, h101, h104, h107, h110⟩ := e4_Se_readSets
  refine ac (s_iconst (M := M_Se_readSets) (pc := 0) h0 rfl) ?_
  refine ac (s_istn (M := M_Se_readSets) (pc := 1) (k := 2) h1 (by decide)) ?_
  refine ac (s_iconst (M := M_Se_readSets) (pc := 2) h2 rfl) ?_
  refine ac (s_istn (M := M_Se_readSets) (pc := 3) (k := 3) h3 (by decide)) ?_
  refine ac (s_ildn (M := M_Se_readSets) (pc := 4) (k := 3) h4) ?_
  refine ac (s_bipush (M := M_Se_readSets) (pc := 5) h5 (by decide)) ?_
  refine ac (s_icmp_gt (M := M_Se_readSets) (pc := 7) h7 (by decide)) ?_
  refine ac (s_aldn (M := M_Se_readSets) (pc := 10) (k := 0) h10) ?_
  refine ac (s_get (M := M_Se_readSets) (pc := 11) (T := TX5) (N := 1) h11 rfl in_X5 (by decide) wd172) ?_
  refine ac (s_callV (M := M_Se_readSets) (pc := 14) (tz_Se rfl) h14 q_Tk_kind wd874 wd863 wd864 rfl (T := TX6) (N := 7) rfl) ?_
  refine ac (s_sipush (M := M_Se_readSets) (pc := 17) h17 (by decide)) ?_
  refine ac (s_icmp_ne (M := M_Se_readSets) (pc := 20) h20 (by decide)) ?_
  refine ac (s_aldn (M := M_Se_readSets) (pc := 23) (k := 0) h23) ?_
  refine ac (s_get (M := M_Se_readSets) (pc := 24) (T := TX5) (N := 1) h24 rfl in_X5 (by decide) wd172) ?_
  refine ac (s_callV (M := M_Se_readSets) (pc := 27) (tz_Se rfl) h27 q_Tk_move wd897 wd871 wd872 rfl (T := TX6) (N := 7) rfl) ?_
  refine ac (s_aldn (M := M_Se_readSets) (pc := 30) (k := 0) h30) ?_
  refine ac (s_get (M := M_Se_readSets) (pc := 31) (T := TX5) (N := 1) h31 rfl in_X5 (by decide) wd172) ?_
  refine ac (s_callV (M := M_Se_readSets) (pc := 34) (tz_Se rfl) h34 q_Tk_kind wd874 wd863 wd864 rfl (T := TX6) (N := 7) rfl) ?_
  refine ac (s_sipush (M := M_Se_readSets) (pc := 37) h37 (by decide)) ?_
  refine ac (s_icmp_eq (M := M_Se_readSets) (pc := 40) h40 (by decide)) ?_
  refine ac (s_aldn (M := M_Se_readSets) (pc := 43) (k := 0) h43) ?_
  refine ac (s_get (M := M_Se_readSets) (pc := 44) (T := TX5) (N := 1) h44 rfl in_X5 (by decide) wd172) ?_
  refine ac (s_iconst (M := M_Se_readSets) (pc := 47) h47 rfl) ?_
  refine ac (s_callV (M := M_Se_readSets) (pc := 48) (tz_Se rfl) h48 q_Tk_fail wd895 wd867 wd868 rfl (T := TX6) (N := 7) rfl) ?_
  refine ac (s_zret (M := M_Se_readSets) (pc := 51) h51 rfl) ?_
  refine ac (s_iconst (M := M_Se_readSets) (pc := 52) h52 rfl) ?_
  refine ac (s_aldn (M := M_Se_readSets) (pc := 53) (k := 0) h53) ?_
  refine ac (s_get (M := M_Se_readSets) (pc := 54) (T := TX5) (N := 1) h54 rfl in_X5 (by decide) wd172) ?_
  refine ac (s_callV (M := M_Se_readSets) (pc := 57) (tz_Se rfl) h57 q_Tk_amount wd879 wd880 wd881 rfl (T := TX6) (N := 7) rfl) ?_
  refine ac (s_ishl (M := M_Se_readSets) (pc := 60) h60) ?_
  refine ac (s_ist (M := M_Se_readSets) (pc := 61) h61 (by decide)) ?_
  refine ac (s_ildn (M := M_Se_readSets) (pc := 63) (k := 2) h63) ?_
  refine ac (s_ild (M := M_Se_readSets) (pc := 64) h64) ?_
  refine ac (s_iand (M := M_Se_readSets) (pc := 66) h66) ?_
  refine ac (s_if_eq (M := M_Se_readSets) (pc := 67) h67 (by decide)) ?_
  refine ac (s_aldn (M := M_Se_readSets) (pc := 70) (k := 0) h70) ?_
  refine ac (s_get (M := M_Se_readSets) (pc := 71) (T := TX5) (N := 1) h71 rfl in_X5 (by decide) wd172) ?_
  refine ac (s_iconst (M := M_Se_readSets) (pc := 74) h74 rfl) ?_
  refine ac (s_callV (M := M_Se_readSets) (pc := 75) (tz_Se rfl) h75 q_Tk_fail wd895 wd867 wd868 rfl (T := TX6) (N := 7) rfl) ?_
  refine ac (s_zret (M := M_Se_readSets) (pc := 78) h78 rfl) ?_
  refine ac (s_ildn (M := M_Se_readSets) (pc := 79) (k := 2) h79) ?_
  refine ac (s_ild (M := M_Se_readSets) (pc := 80) h80) ?_
  refine ac (s_ior (M := M_Se_readSets) (pc := 82) h82) ?_
  refine ac (s_istn (M := M_Se_readSets) (pc := 83) (k := 2) h83 (by decide)) ?_
  refine ac (s_aldn (M := M_Se_readSets) (pc := 84) (k := 0) h84) ?_
  refine ac (s_aldn (M := M_Se_readSets) (pc := 85) (k := 1) h85) ?_
  refine ac (s_callV (M := M_Se_readSets) (pc := 86) (tz_Se rfl) h86 q_Se_readSet wd917 wd919 wd16 rfl (T := TX5) (N := 1) rfl) ?_
  refine ac (s_if_ne (M := M_Se_readSets) (pc := 89) h89 (by decide)) ?_
  refine ac (s_iconst (M := M_Se_readSets) (pc := 92) h92 rfl) ?_
  refine ac (s_zret (M := M_Se_readSets) (pc := 93) h93 rfl) ?_
  refine ac (s_iinc (M := M_Se_readSets) (pc := 94) h94 rfl (by decide)) ?_
  refine ac (s_goto (M := M_Se_readSets) (pc := 97) h97 (by decide)) ?_
  refine ac (s_aldn (M := M_Se_readSets) (pc := 100) (k := 0) h100) ?_
  refine ac (s_get (M := M_Se_readSets) (pc := 101) (T := TX5) (N := 1) h101 rfl in_X5 (by decide) wd172) ?_
  refine ac (s_sipush (M := M_Se_readSets) (pc := 104) h104 (by decide)) ?_
  refine ac (s_callV (M := M_Se_readSets) (pc := 107) (tz_Se rfl) h107 q_Tk_take wd858 wd859 wd860 rfl (T := TX6) (N := 7) rfl) ?_
  refine ac (s_zret (M := M_Se_readSets) (pc := 110) h110 rfl) ?_
  exact ac_nil
theorem e0_Se_readSet : decode prog_7_method_8_code 0 = .ok (.aload_n 0, 1) ∧ decode prog_7_method_8_code 1 = .ok (.getfield 12, 3) ∧ decode prog_7_method_8_code 4 = .ok (.invokevirtual 56, 3) ∧ decode prog_7_method_8_code 7 = .ok (.istore_n 2, 1) ∧ decode prog_7_method_8_code 8 = .ok (.aload_n 0, 1) ∧ decode prog_7_method_8_code 9 = .ok (.getfield 12, 3) ∧ decode prog_7_method_8_code 12 = .ok (.invokevirtual 65, 3) ∧ decode prog_7_method_8_code 15 = .ok (.aload_n 0, 1) ∧ decode prog_7_method_8_code 16 = .ok (.getfield 12, 3) ∧ decode prog_7_method_8_code 19 = .ok (.invokevirtual 45, 3) ∧ decode prog_7_method_8_code 22 = .ok (.bipush 45, 2) ∧ decode prog_7_method_8_code 24 = .ok (.if_icmp .ne 7, 3) := by decide +kernel
theorem e1_Se_readSet : decode prog_7_method_8_code 27 = .ok (.iconst 1, 1) ∧ decode prog_7_method_8_code 28 = .ok (.goto 4, 3) ∧ decode prog_7_method_8_code 31 = .ok (.iconst 0, 1) ∧ decode prog_7_method_8_code 32 = .ok (.istore_n 3, 1) ∧ decode prog_7_method_8_code 33 = .ok (.iload_n 3, 1) ∧ decode prog_7_method_8_code 34 = .ok (.ifCond .eq 10, 3) ∧ decode prog_7_method_8_code 37 = .ok (.aload_n 0, 1) ∧ decode prog_7_method_8_code 38 = .ok (.getfield 12, 3) ∧ decode prog_7_method_8_code 41 = .ok (.invokevirtual 65, 3) ∧ decode prog_7_method_8_code 44 = .ok (.aload_n 0, 1) ∧ decode prog_7_method_8_code 45 = .ok (.getfield 12, 3) ∧ decode prog_7_method_8_code 48 = .ok (.invokevirtual 56, 3) := by decide +kernel
theorem e2_Se_readSet : decode prog_7_method_8_code 51 = .ok (.istore 4, 2) ∧ decode prog_7_method_8_code 53 = .ok (.aload_n 0, 1) ∧ decode prog_7_method_8_code 54 = .ok (.getfield 12, 3) ∧ decode prog_7_method_8_code 57 = .ok (.aload_n 1, 1) ∧ decode prog_7_method_8_code 58 = .ok (.getfield 23, 3) ∧ decode prog_7_method_8_code 61 = .ok (.invokevirtual 97, 3) ∧ decode prog_7_method_8_code 64 = .ok (.invokevirtual 84, 3) ∧ decode prog_7_method_8_code 67 = .ok (.ifCond .ne 5, 3) ∧ decode prog_7_method_8_code 70 = .ok (.iconst 0, 1) ∧ decode prog_7_method_8_code 71 = .ok (.ireturn, 1) ∧ decode prog_7_method_8_code 72 = .ok (.aload_n 1, 1) ∧ decode prog_7_method_8_code 73 = .ok (.iload_n 2, 1) := by decide +kernel
theorem e3_Se_readSet : decode prog_7_method_8_code 74 = .ok (.iload_n 3, 1) ∧ decode prog_7_method_8_code 75 = .ok (.ifCond .eq 10, 3) ∧ decode prog_7_method_8_code 78 = .ok (.iload 4, 2) ∧ decode prog_7_method_8_code 80 = .ok (.ineg, 1) ∧ decode prog_7_method_8_code 81 = .ok (.i2l, 1) ∧ decode prog_7_method_8_code 82 = .ok (.goto 6, 3) ∧ decode prog_7_method_8_code 85 = .ok (.iload 4, 2) ∧ decode prog_7_method_8_code 87 = .ok (.i2l, 1) ∧ decode prog_7_method_8_code 88 = .ok (.invokevirtual 101, 3) ∧ decode prog_7_method_8_code 91 = .ok (.aload_n 0, 1) ∧ decode prog_7_method_8_code 92 = .ok (.getfield 12, 3) ∧ decode prog_7_method_8_code 95 = .ok (.bipush 59, 2) := by decide +kernel
theorem e4_Se_readSet : decode prog_7_method_8_code 97 = .ok (.invokevirtual 41, 3) ∧ decode prog_7_method_8_code 100 = .ok (.ireturn, 1) := by decide +kernel
def T_Se_readSet : TT := [(0, o_ald 0 1), (1, o_get 5 0 4), (4, o_callV M_Tk_amount 4 1 7), (7, o_ist 2 8), (8, o_ald 0 9), (9, o_get 5 0 12), (12, o_callV M_Tk_move 4 1 15), (15, o_ald 0 16), (16, o_get 5 0 19), (19, o_callV M_Tk_kind 4 1 22), (22, o_push (.int (iI (45))) 24), (24, o_icmp_ne 31 27), (27, o_push (.int (iI (1))) 28), (28, o_goto 32), (31, o_push (.int (iI (0))) 32), (32, o_ist 3 33), (33, o_ild 3 34), (34, o_if_eq 44 37), (37, o_ald 0 38), (38, o_get 5 0 41), (41, o_callV M_Tk_move 4 1 44), (44, o_ald 0 45), (45, o_get 5 0 48), (48, o_callV M_Tk_amount 4 1 51), (51, o_ist 4 53), (53, o_ald 0 54), (54, o_get 5 0 57), (57, o_ald 1 58), (58, o_get 1 0 61), (61, o_callV M_Mo_half 2 1 64), (64, o_callV M_Tk_takeUpTo 4 2 67), (67, o_if_ne 72 70), (70, o_push (.int (iI (0))) 71), (71, o_zret), (72, o_ald 1 73), (73, o_ild 2 74), (74, o_ild 3 75), (75, o_if_eq 85 78), (78, o_ild 4 80), (80, o_ineg 81), (81, o_i2l 82), (82, o_goto 88), (85, o_ild 4 87), (87, o_i2l 88), (88, o_callV M_Ml_put 1 3 91), (91, o_ald 0 92), (92, o_get 5 0 95), (95, o_push (.int (iI (59))) 97), (97, o_callV M_Tk_take 4 2 100), (100, o_zret)]
theorem k_Se_readSet : ∀ x ∈ T_Se_readSet, SO M_Se_readSet x.1 x.2 := by
  obtain ⟨h0, h1, h4, h7, h8, h9, h12, h15, h16, h19, h22, h24⟩ := e0_Se_readSet
  obtain ⟨h27, h28, h31, h32, h33, h34, h37, h38, h41, h44, h45, h48⟩ := e1_Se_readSet
  obtain ⟨h51, h53, h54, h57, h58, h61, h64, h67, h70, h71, h72, h73⟩ := e2_Se_readSet
  obtain ⟨h74, h75, h78, h80, h81, h82, h85, h87, h88, h91, h92, h95⟩ := e3_Se_readSet
  obtain ⟨h97, h100⟩ := e4_Se_readSet
  refine ac (s_aldn (M := M_Se_readSet) (pc := 0) (k := 0) h0) ?_
  refine ac (s_get (M := M_Se_readSet) (pc := 1) (T := TX5) (N := 1) h1 rfl in_X5 (by decide) wd172) ?_
  refine ac (s_callV (M := M_Se_readSet) (pc := 4) (tz_Se rfl) h4 q_Tk_amount wd879 wd880 wd881 rfl (T := TX6) (N := 7) rfl) ?_
  refine ac (s_istn (M := M_Se_readSet) (pc := 7) (k := 2) h7 (by decide)) ?_
  refine ac (s_aldn (M := M_Se_readSet) (pc := 8) (k := 0) h8) ?_
  refine ac (s_get (M := M_Se_readSet) (pc := 9) (T := TX5) (N := 1) h9 rfl in_X5 (by decide) wd172) ?_
  refine ac (s_callV (M := M_Se_readSet) (pc := 12) (tz_Se rfl) h12 q_Tk_move wd897 wd871 wd872 rfl (T := TX6) (N := 7) rfl) ?_
  refine ac (s_aldn (M := M_Se_readSet) (pc := 15) (k := 0) h15) ?_
  refine ac (s_get (M := M_Se_readSet) (pc := 16) (T := TX5) (N := 1) h16 rfl in_X5 (by decide) wd172) ?_
  refine ac (s_callV (M := M_Se_readSet) (pc := 19) (tz_Se rfl) h19 q_Tk_kind wd874 wd863 wd864 rfl (T := TX6) (N := 7) rfl) ?_
  refine ac (s_bipush (M := M_Se_readSet) (pc := 22) h22 (by decide)) ?_
  refine ac (s_icmp_ne (M := M_Se_readSet) (pc := 24) h24 (by decide)) ?_
  refine ac (s_iconst (M := M_Se_readSet) (pc := 27) h27 rfl) ?_
  refine ac (s_goto (M := M_Se_readSet) (pc := 28) h28 (by decide)) ?_
  refine ac (s_iconst (M := M_Se_readSet) (pc := 31) h31 rfl) ?_
  refine ac (s_istn (M := M_Se_readSet) (pc := 32) (k := 3) h32 (by decide)) ?_
  refine ac (s_ildn (M := M_Se_readSet) (pc := 33) (k := 3) h33) ?_
  refine ac (s_if_eq (M := M_Se_readSet) (pc := 34) h34 (by decide)) ?_
  refine ac (s_aldn (M := M_Se_readSet) (pc := 37) (k := 0) h37) ?_
  refine ac (s_get (M := M_Se_readSet) (pc := 38) (T := TX5) (N := 1) h38 rfl in_X5 (by decide) wd172) ?_
  refine ac (s_callV (M := M_Se_readSet) (pc := 41) (tz_Se rfl) h41 q_Tk_move wd897 wd871 wd872 rfl (T := TX6) (N := 7) rfl) ?_
  refine ac (s_aldn (M := M_Se_readSet) (pc := 44) (k := 0) h44) ?_
  refine ac (s_get (M := M_Se_readSet) (pc := 45) (T := TX5) (N := 1) h45 rfl in_X5 (by decide) wd172) ?_
  refine ac (s_callV (M := M_Se_readSet) (pc := 48) (tz_Se rfl) h48 q_Tk_amount wd879 wd880 wd881 rfl (T := TX6) (N := 7) rfl) ?_
  refine ac (s_ist (M := M_Se_readSet) (pc := 51) h51 (by decide)) ?_
  refine ac (s_aldn (M := M_Se_readSet) (pc := 53) (k := 0) h53) ?_
  refine ac (s_get (M := M_Se_readSet) (pc := 54) (T := TX5) (N := 1) h54 rfl in_X5 (by decide) wd172) ?_
  refine ac (s_aldn (M := M_Se_readSet) (pc := 57) (k := 1) h57) ?_
  refine ac (s_get (M := M_Se_readSet) (pc := 58) (T := TX1) (N := 4) h58 rfl in_X1 (by decide) wd101) ?_
  refine ac (s_callV (M := M_Se_readSet) (pc := 61) (tz_Se rfl) h61 q_Mo_half wd921 wd343 wd344 rfl (T := TX2) (N := 6) rfl) ?_
  refine ac (s_callV (M := M_Se_readSet) (pc := 64) (tz_Se rfl) h64 q_Tk_takeUpTo wd903 wd904 wd905 rfl (T := TX6) (N := 7) rfl) ?_
  refine ac (s_if_ne (M := M_Se_readSet) (pc := 67) h67 (by decide)) ?_
  refine ac (s_iconst (M := M_Se_readSet) (pc := 70) h70 rfl) ?_
  refine ac (s_zret (M := M_Se_readSet) (pc := 71) h71 rfl) ?_
  refine ac (s_aldn (M := M_Se_readSet) (pc := 72) (k := 1) h72) ?_
  refine ac (s_ildn (M := M_Se_readSet) (pc := 73) (k := 2) h73) ?_
  refine ac (s_ildn (M := M_Se_readSet) (pc := 74) (k := 3) h74) ?_
  refine ac (s_if_eq (M := M_Se_readSet) (pc := 75) h75 (by decide)) ?_
  refine ac (s_ild (M := M_Se_readSet) (pc := 78) h78) ?_
  refine ac (s_ineg (M := M_Se_readSet) (pc := 80) h80) ?_
  refine ac (s_i2l (M := M_Se_readSet) (pc := 81) h81) ?_
  refine ac (s_goto (M := M_Se_readSet) (pc := 82) h82 (by decide)) ?_
  refine ac (s_ild (M := M_Se_readSet) (pc := 85) h85) ?_
  refine ac (s_i2l (M := M_Se_readSet) (pc := 87) h87) ?_
  refine ac (s_callV (M := M_Se_readSet) (pc := 88) (tz_Se rfl) h88 q_Ml_put wd922 wd592 wd593 rfl (T := TX1) (N := 4) rfl) ?_
  refine ac (s_aldn (M := M_Se_readSet) (pc := 91) (k := 0) h91) ?_
  refine ac (s_get (M := M_Se_readSet) (pc := 92) (T := TX5) (N := 1) h92 rfl in_X5 (by decide) wd172) ?_
  refine ac (s_bipush (M := M_Se_readSet) (pc := 95) h95 (by decide)) ?_
  refine ac (s_callV (M := M_Se_readSet) (pc := 97) (tz_Se rfl) h97 q_Tk_take wd858 wd859 wd860 rfl (T := TX6) (N := 7) rfl) ?_
  refine ac (s_zret (M := M_Se_readSet) (pc := 100) h100 rfl) ?_
  exact ac_nil
