theorem e0_R_init : decode prog_1_method_1_code 0 = .ok (.aload_n 0, 1) ∧ decode prog_1_method_1_code 1 = .ok (.invokespecial 1, 3) ∧ decode prog_1_method_1_code 4 = .ok (.aload_n 0, 1) ∧ decode prog_1_method_1_code 5 = .ok (.sipush 500, 3) ∧ decode prog_1_method_1_code 8 = .ok (.newarray .byte, 2) ∧ decode prog_1_method_1_code 10 = .ok (.putfield 9, 3) ∧ decode prog_1_method_1_code 13 = .ok (.aload_n 0, 1) ∧ decode prog_1_method_1_code 14 = .ok (.new 13, 3) ∧ decode prog_1_method_1_code 17 = .ok (.dup, 1) ∧ decode prog_1_method_1_code 18 = .ok (.invokespecial 15, 3) ∧ decode prog_1_method_1_code 21 = .ok (.putfield 16, 3) ∧ decode prog_1_method_1_code 24 = .ok (.aload_n 0, 1) := by decide +kernel
theorem e1_R_init : decode prog_1_method_1_code 25 = .ok (.new 13, 3) ∧ decode prog_1_method_1_code 28 = .ok (.dup, 1) ∧ decode prog_1_method_1_code 29 = .ok (.invokespecial 15, 3) ∧ decode prog_1_method_1_code 32 = .ok (.putfield 20, 3) ∧ decode prog_1_method_1_code 35 = .ok (.aload_n 0, 1) ∧ decode prog_1_method_1_code 36 = .ok (.new 13, 3) ∧ decode prog_1_method_1_code 39 = .ok (.dup, 1) ∧ decode prog_1_method_1_code 40 = .ok (.invokespecial 15, 3) ∧ decode prog_1_method_1_code 43 = .ok (.putfield 23, 3) ∧ decode prog_1_method_1_code 46 = .ok (.aload_n 0, 1) ∧ decode prog_1_method_1_code 47 = .ok (.new 26, 3) ∧ decode prog_1_method_1_code 50 = .ok (.dup, 1) := by decide +kernel
theorem e2_R_init : decode prog_1_method_1_code 51 = .ok (.invokespecial 28, 3) ∧ decode prog_1_method_1_code 54 = .ok (.putfield 29, 3) ∧ decode prog_1_method_1_code 57 = .ok (.aload_n 0, 1) ∧ decode prog_1_method_1_code 58 = .ok (.new 33, 3) ∧ decode prog_1_method_1_code 61 = .ok (.dup, 1) ∧ decode prog_1_method_1_code 62 = .ok (.invokespecial 35, 3) ∧ decode prog_1_method_1_code 65 = .ok (.putfield 36, 3) ∧ decode prog_1_method_1_code 68 = .ok (.aload_n 0, 1) ∧ decode prog_1_method_1_code 69 = .ok (.new 40, 3) ∧ decode prog_1_method_1_code 72 = .ok (.dup, 1) ∧ decode prog_1_method_1_code 73 = .ok (.invokespecial 42, 3) ∧ decode prog_1_method_1_code 76 = .ok (.putfield 43, 3) := by decide +kernel
theorem e3_R_init : decode prog_1_method_1_code 79 = .ok (.aload_n 0, 1) ∧ decode prog_1_method_1_code 80 = .ok (.iconst 0, 1) ∧ decode prog_1_method_1_code 81 = .ok (.putfield 47, 3) ∧ decode prog_1_method_1_code 84 = .ok (.aload_n 0, 1) ∧ decode prog_1_method_1_code 85 = .ok (.iconst (-1), 1) ∧ decode prog_1_method_1_code 86 = .ok (.putfield 51, 3) ∧ decode prog_1_method_1_code 89 = .ok (.aload_n 0, 1) ∧ decode prog_1_method_1_code 90 = .ok (.new 54, 3) ∧ decode prog_1_method_1_code 93 = .ok (.dup, 1) ∧ decode prog_1_method_1_code 94 = .ok (.invokespecial 56, 3) ∧ decode prog_1_method_1_code 97 = .ok (.putfield 57, 3) ∧ decode prog_1_method_1_code 100 = .ok (.aload_n 0, 1) := by decide +kernel
theorem e4_R_init : decode prog_1_method_1_code 101 = .ok (.getfield 16, 3) ∧ decode prog_1_method_1_code 104 = .ok (.getfield 61, 3) ∧ decode prog_1_method_1_code 107 = .ok (.bipush 7, 2) ∧ decode prog_1_method_1_code 109 = .ok (.invokevirtual 65, 3) ∧ decode prog_1_method_1_code 112 = .ok (.aload_n 0, 1) ∧ decode prog_1_method_1_code 113 = .ok (.getfield 16, 3) ∧ decode prog_1_method_1_code 116 = .ok (.getfield 61, 3) ∧ decode prog_1_method_1_code 119 = .ok (.bipush 11, 2) ∧ decode prog_1_method_1_code 121 = .ok (.invokevirtual 65, 3) ∧ decode prog_1_method_1_code 124 = .ok (.aload_n 0, 1) ∧ decode prog_1_method_1_code 125 = .ok (.getfield 16, 3) ∧ decode prog_1_method_1_code 128 = .ok (.getfield 61, 3) := by decide +kernel
theorem e5_R_init : decode prog_1_method_1_code 131 = .ok (.bipush 13, 2) ∧ decode prog_1_method_1_code 133 = .ok (.invokevirtual 65, 3) ∧ decode prog_1_method_1_code 136 = .ok (.aload_n 0, 1) ∧ decode prog_1_method_1_code 137 = .ok (.getfield 16, 3) ∧ decode prog_1_method_1_code 140 = .ok (.getfield 61, 3) ∧ decode prog_1_method_1_code 143 = .ok (.iconst 1, 1) ∧ decode prog_1_method_1_code 144 = .ok (.invokevirtual 71, 3) ∧ decode prog_1_method_1_code 147 = .ok (.return_, 1) := by decide +kernel
def T_R_init : TT := [(0, o_ald 0 1), (1, o_oinit 4), (4, o_ald 0 5), (5, o_push (.int (iI (500))) 8), (8, o_newai 0 10), (10, o_putr 0 0 13), (13, o_ald 0 14), (14, o_new 1 4 [.null, .null, .null, .int (iI 0)] 17), (17, o_dup 18), (18, o_callI M_Ml_init 1 5 34 21), (21, o_putr 0 2 24), (24, o_ald 0 25), (25, o_new 1 4 [.null, .null, .null, .int (iI 0)] 28), (28, o_dup 29), (29, o_callI M_Ml_init 1 5 34 32), (32, o_putr 0 3 35), (35, o_ald 0 36), (36, o_new 1 4 [.null, .null, .null, .int (iI 0)] 39), (39, o_dup 40), (40, o_callI M_Ml_init 1 5 34 43), (43, o_putr 0 4 46), (46, o_ald 0 47), (47, o_new 3 3 [.null, .int (iI 0), .int (iI 0)] 50), (50, o_dup 51), (51, o_callI M_Ch_init 1 55 351 54), (54, o_putr 0 6 57), (57, o_ald 0 58), (58, o_new 5 1 [.null] 61), (61, o_dup 62), (62, o_callI M_Se_init 1 4 1510 65), (65, o_putr 0 7 68), (68, o_ald 0 69), (69, o_new 6 4 [.null, .null, .int (iI 0), .long (lI 0)] 72), (72, o_dup 73), (73, o_callI M_Sc_init 1 9 4548 76), (76, o_putr 0 8 79), (79, o_ald 0 80), (80, o_push (.int (iI (0))) 81), (81, o_puti 0 9 84), (84, o_ald 0 85), (85, o_push (.int (iI (-1))) 86), (86, o_puti 0 10 89), (89, o_ald 0 90), (90, o_new 9 4 [.null, .int (iI 0), .int (iI 0), .int (iI 0)] 93), (93, o_dup 94), (94, o_callI M_jSB_init_v 1 1 16 97), (97, o_putr 0 11 100), (100, o_ald 0 101), (101, o_get 0 2 104), (104, o_get 1 0 107), (107, o_push (.int (iI (7))) 109), (109, o_callV M_Mo_insert 2 2 112), (112, o_ald 0 113), (113, o_get 0 2 116), (116, o_get 1 0 119), (119, o_push (.int (iI (11))) 121), (121, o_callV M_Mo_insert 2 2 124), (124, o_ald 0 125), (125, o_get 0 2 128), (128, o_get 1 0 131), (131, o_push (.int (iI (13))) 133), (133, o_callV M_Mo_insert 2 2 136), (136, o_ald 0 137), (137, o_get 0 2 140), (140, o_get 1 0 143), (143, o_push (.int (iI (1))) 144), (144, o_callV M_Mo_setChecks 2 2 147), (147, o_vret)]
theorem k_R_init : ∀ x ∈ T_R_init, SO M_R_init x.1 x.2 := by
  obtain ⟨h0, h1, h4, h5, h8, h10, h13, h14, h17, h18, h21, h24⟩ := e0_R_init
  obtain ⟨h25, h28, h29, h32, h35, h36, h39, h40, h43, h46, h47, h50⟩ := e1_R_init
  obtain ⟨h51, h54, h57, h58, h61, h62, h65, h68, h69, h72, h73, h76⟩ := e2_R_init
  obtain ⟨h79, h80, h81, h84, h85, h86, h89, h90, h93, h94, h97, h100⟩ := e3_R_init
  obtain ⟨h101, h104, h107, h109, h112, h113, h116, h119, h121, h124, h125, h128⟩ := e4_R_init
  obtain ⟨h131, h133, h136, h137, h140, h143, h144, h147⟩ := e5_R_init
  refine ac (s_aldn (M := M_R_init) (pc := 0) (k := 0) h0) ?_
  refine ac (s_oinit (M := M_R_init) (pc := 1) h1 wd55 wd56 wd57) ?_
  refine ac (s_aldn (M := M_R_init) (pc := 4) (k := 0) h4) ?_
  refine ac (s_sipush (M := M_R_init) (pc := 5) h5 (by decide)) ?_
  refine ac (s_newai (M := M_R_init) (pc := 8) (t := 0) h8 rfl (fun _ => rfl) wd96 (by decide) (fun _ _ => rfl)) ?_
  refine ac (s_putr (M := M_R_init) (pc := 10) (T := TX7) (N := 12) (ty0 := tyX7) h10 ⟨rfl, in_X7, by decide, wd285, tyX7_ok, nmX7, (Or.inr ⟨rfl, rfl, rfl⟩)⟩ (Or.inr ⟨_, rfl⟩)) ?_
  refine ac (s_aldn (M := M_R_init) (pc := 13) (k := 0) h13) ?_
  refine ac (s_new (M := M_R_init) (pc := 14) (T := TX1) (N := 4) (fs := [.null, .null, .null, .int (iI 0)]) h14 rfl in_X1 tyX1_ok wd58 wd59 wd22 (fun j hj => match j, hj with | 0, _ => rfl | 1, _ => rfl | 2, _ => rfl | 3, _ => rfl | j + 4, h => absurd h (by omega)) (fun _ => rfl)) ?_
  refine ac (s_dup (M := M_R_init) (pc := 17) h17) ?_
  refine ac (s_callI (M := M_R_init) (pc := 18) (mc1 := 5) (ms1 := 34) (tz_R rfl) h18 q_Ml_init rfl rfl wd60 wd61) ?_
  refine ac (s_putr (M := M_R_init) (pc := 21) (T := TX7) (N := 12) (ty0 := tyX7) h21 ⟨rfl, in_X7, by decide, wd287, tyX7_ok, nmX7, (Or.inr ⟨rfl, rfl, rfl⟩)⟩ (Or.inl ⟨_, rfl⟩)) ?_
  refine ac (s_aldn (M := M_R_init) (pc := 24) (k := 0) h24) ?_
  refine ac (s_new (M := M_R_init) (pc := 25) (T := TX1) (N := 4) (fs := [.null, .null, .null, .int (iI 0)]) h25 rfl in_X1 tyX1_ok wd58 wd59 wd22 (fun j hj => match j, hj with | 0, _ => rfl | 1, _ => rfl | 2, _ => rfl | 3, _ => rfl | j + 4, h => absurd h (by omega)) (fun _ => rfl)) ?_
  refine ac (s_dup (M := M_R_init) (pc := 28) h28) ?_
  refine ac (s_callI (M := M_R_init) (pc := 29) (mc1 := 5) (ms1 := 34) (tz_R rfl) h29 q_Ml_init rfl rfl wd60 wd61) ?_
  refine ac (s_putr (M := M_R_init) (pc := 32) (T := TX7) (N := 12) (ty0 := tyX7) h32 ⟨rfl, in_X7, by decide, wd288, tyX7_ok, nmX7, (Or.inr ⟨rfl, rfl, rfl⟩)⟩ (Or.inl ⟨_, rfl⟩)) ?_
  refine ac (s_aldn (M := M_R_init) (pc := 35) (k := 0) h35) ?_
  refine ac (s_new (M := M_R_init) (pc := 36) (T := TX1) (N := 4) (fs := [.null, .null, .null, .int (iI 0)]) h36 rfl in_X1 tyX1_ok wd58 wd59 wd22 (fun j hj => match j, hj with | 0, _ => rfl | 1, _ => rfl | 2, _ => rfl | 3, _ => rfl | j + 4, h => absurd h (by omega)) (fun _ => rfl)) ?_
  refine ac (s_dup (M := M_R_init) (pc := 39) h39) ?_
  refine ac (s_callI (M := M_R_init) (pc := 40) (mc1 := 5) (ms1 := 34) (tz_R rfl) h40 q_Ml_init rfl rfl wd60 wd61) ?_
  refine ac (s_putr (M := M_R_init) (pc := 43) (T := TX7) (N := 12) (ty0 := tyX7) h43 ⟨rfl, in_X7, by decide, wd289, tyX7_ok, nmX7, (Or.inr ⟨rfl, rfl, rfl⟩)⟩ (Or.inl ⟨_, rfl⟩)) ?_
  refine ac (s_aldn (M := M_R_init) (pc := 46) (k := 0) h46) ?_
  refine ac (s_new (M := M_R_init) (pc := 47) (T := TX0) (N := 3) (fs := [.null, .int (iI 0), .int (iI 0)]) h47 rfl in_X0 tyX0_ok wd116 wd117 wd24 (fun j hj => match j, hj with | 0, _ => rfl | 1, _ => rfl | 2, _ => rfl | j + 3, h => absurd h (by omega)) (fun _ => rfl)) ?_
  refine ac (s_dup (M := M_R_init) (pc := 50) h50) ?_
  refine ac (s_callI (M := M_R_init) (pc := 51) (mc1 := 55) (ms1 := 351) (tz_R rfl) h51 q_Ch_init rfl rfl wd118 wd119) ?_
  refine ac (s_putr (M := M_R_init) (pc := 54) (T := TX7) (N := 12) (ty0 := tyX7) h54 ⟨rfl, in_X7, by decide, wd291, tyX7_ok, nmX7, (Or.inr ⟨rfl, rfl, rfl⟩)⟩ (Or.inl ⟨_, rfl⟩)) ?_
  refine ac (s_aldn (M := M_R_init) (pc := 57) (k := 0) h57) ?_
  refine ac (s_new (M := M_R_init) (pc := 58) (T := TX5) (N := 1) (fs := [.null]) h58 rfl in_X5 tyX5_ok wd136 wd137 wd25 (fun j hj => match j, hj with | 0, _ => rfl | j + 1, h => absurd h (by omega)) (fun _ => rfl)) ?_
  refine ac (s_dup (M := M_R_init) (pc := 61) h61) ?_
  refine ac (s_callI (M := M_R_init) (pc := 62) (mc1 := 4) (ms1 := 1510) (tz_R rfl) h62 q_Se_init rfl rfl wd138 wd139) ?_
  refine ac (s_putr (M := M_R_init) (pc := 65) (T := TX7) (N := 12) (ty0 := tyX7) h65 ⟨rfl, in_X7, by decide, wd292, tyX7_ok, nmX7, (Or.inr ⟨rfl, rfl, rfl⟩)⟩ (Or.inl ⟨_, rfl⟩)) ?_
  refine ac (s_aldn (M := M_R_init) (pc := 68) (k := 0) h68) ?_
  refine ac (s_new (M := M_R_init) (pc := 69) (T := TX4) (N := 4) (fs := [.null, .null, .int (iI 0), .long (lI 0)]) h69 rfl in_X4 tyX4_ok wd177 wd178 wd27 (fun j hj => match j, hj with | 0, _ => rfl | 1, _ => rfl | 2, _ => rfl | 3, _ => rfl | j + 4, h => absurd h (by omega)) (fun _ => rfl)) ?_
  refine ac (s_dup (M := M_R_init) (pc := 72) h72) ?_
  refine ac (s_callI (M := M_R_init) (pc := 73) (mc1 := 9) (ms1 := 4548) (tz_R rfl) h73 q_Sc_init rfl rfl wd179 wd180) ?_
  refine ac (s_putr (M := M_R_init) (pc := 76) (T := TX7) (N := 12) (ty0 := tyX7) h76 ⟨rfl, in_X7, by decide, wd293, tyX7_ok, nmX7, (Or.inr ⟨rfl, rfl, rfl⟩)⟩ (Or.inl ⟨_, rfl⟩)) ?_
  refine ac (s_aldn (M := M_R_init) (pc := 79) (k := 0) h79) ?_
  refine ac (s_iconst (M := M_R_init) (pc := 80) h80 rfl) ?_
  refine ac (s_puti (M := M_R_init) (pc := 81) (T := TX7) (N := 12) (ty0 := tyX7) h81 ⟨rfl, in_X7, by decide, wd294, tyX7_ok, nmX7, (Or.inl rfl)⟩ rfl) ?_
  refine ac (s_aldn (M := M_R_init) (pc := 84) (k := 0) h84) ?_
  refine ac (s_iconst (M := M_R_init) (pc := 85) h85 rfl) ?_
  refine ac (s_puti (M := M_R_init) (pc := 86) (T := TX7) (N := 12) (ty0 := tyX7) h86 ⟨rfl, in_X7, by decide, wd295, tyX7_ok, nmX7, (Or.inl rfl)⟩ rfl) ?_
  refine ac (s_aldn (M := M_R_init) (pc := 89) (k := 0) h89) ?_
  refine ac (s_new (M := M_R_init) (pc := 90) (T := TJ4) (N := 4) (fs := [.null, .int (iI 0), .int (iI 0), .int (iI 0)]) h90 rfl in_J4 tyJ4_ok wd219 wd220 wd30 (fun j hj => match j, hj with | 0, _ => rfl | 1, _ => rfl | 2, _ => rfl | 3, _ => rfl | j + 4, h => absurd h (by omega)) (fun _ => rfl)) ?_
  refine ac (s_dup (M := M_R_init) (pc := 93) h93) ?_
  refine ac (s_callI (M := M_R_init) (pc := 94) (mc1 := 1) (ms1 := 16) (tz_R rfl) h94 q_jSB_init_v rfl rfl wd221 wd222) ?_
  refine ac (s_putr (M := M_R_init) (pc := 97) (T := TX7) (N := 12) (ty0 := tyX7) h97 ⟨rfl, in_X7, by decide, wd296, tyX7_ok, nmX7, (Or.inr ⟨rfl, rfl, rfl⟩)⟩ (Or.inl ⟨_, rfl⟩)) ?_
  refine ac (s_aldn (M := M_R_init) (pc := 100) (k := 0) h100) ?_
  refine ac (s_get (M := M_R_init) (pc := 101) (T := TX7) (N := 12) h101 rfl in_X7 (by decide) wd287) ?_
  refine ac (s_get (M := M_R_init) (pc := 104) (T := TX1) (N := 4) h104 rfl in_X1 (by decide) wd100) ?_
  refine ac (s_bipush (M := M_R_init) (pc := 107) h107 (by decide)) ?_
  refine ac (s_callV (M := M_R_init) (pc := 109) (tz_R rfl) h109 q_Mo_insert wd250 wd251 wd252 rfl (T := TX2) (N := 6) rfl) ?_
  refine ac (s_aldn (M := M_R_init) (pc := 112) (k := 0) h112) ?_
  refine ac (s_get (M := M_R_init) (pc := 113) (T := TX7) (N := 12) h113 rfl in_X7 (by decide) wd287) ?_
  refine ac (s_get (M := M_R_init) (pc := 116) (T := TX1) (N := 4) h116 rfl in_X1 (by decide) wd100) ?_
  refine ac (s_bipush (M := M_R_init) (pc := 119) h119 (by decide)) ?_
  refine ac (s_callV (M := M_R_init) (pc := 121) (tz_R rfl) h121 q_Mo_insert wd250 wd251 wd252 rfl (T := TX2) (N := 6) rfl) ?_
  refine ac (s_aldn (M := M_R_init) (pc := 124) (k := 0) h124) ?_
  refine ac (s_get (M := M_R_init) (pc := 125) (T := TX7) (N := 12) h125 rfl in_X7 (by decide) wd287) ?_
  refine ac (s_get (M := M_R_init) (pc := 128) (T := TX1) (N := 4) h128 rfl in_X1 (by decide) wd100) ?_
  refine ac (s_bipush (M := M_R_init) (pc := 131) h131 (by decide)) ?_
  refine ac (s_callV (M := M_R_init) (pc := 133) (tz_R rfl) h133 q_Mo_insert wd250 wd251 wd252 rfl (T := TX2) (N := 6) rfl) ?_
  refine ac (s_aldn (M := M_R_init) (pc := 136) (k := 0) h136) ?_
  refine ac (s_get (M := M_R_init) (pc := 137) (T := TX7) (N := 12) h137 rfl in_X7 (by decide) wd287) ?_
  refine ac (s_get (M := M_R_init) (pc := 140) (T := TX1) (N := 4) h140 rfl in_X1 (by decide) wd100) ?_
  refine ac (s_iconst (M := M_R_init) (pc := 143) h143 rfl) ?_
  refine ac (s_callV (M := M_R_init) (pc := 144) (tz_R rfl) h144 q_Mo_setChecks wd281 wd282 wd283 rfl (T := TX2) (N := 6) rfl) ?_
  refine ac (s_vret (M := M_R_init) (pc := 147) h147 rfl) ?_
  exact ac_nil
theorem e0_R_floorQuotient : decode prog_1_method_57_code 0 = .ok (.lload_n 2, 1) ∧ decode prog_1_method_57_code 1 = .ok (.lconst 0, 1) ∧ decode prog_1_method_57_code 2 = .ok (.lcmp, 1) ∧ decode prog_1_method_57_code 3 = .ok (.ifCond .ne 7, 3) ∧ decode prog_1_method_57_code 6 = .ok (.lconst 0, 1) ∧ decode prog_1_method_57_code 7 = .ok (.goto 8, 3) ∧ decode prog_1_method_57_code 10 = .ok (.lload_n 0, 1) ∧ decode prog_1_method_57_code 11 = .ok (.lload_n 2, 1) ∧ decode prog_1_method_57_code 12 = .ok (.invokestatic 345, 3) ∧ decode prog_1_method_57_code 15 = .ok (.lreturn, 1) := by decide +kernel
def T_R_floorQuotient : TT := [(0, o_lld 2 1), (1, o_push (.long (lI 0)) 2), (2, o_lc_ne 10 6), (6, o_push (.long (lI 0)) 7), (7, o_goto 15), (10, o_lld 0 11), (11, o_lld 2 12), (12, o_call M_jMath_floorDiv 2 15), (15, o_lret)]
theorem k_R_floorQuotient : ∀ x ∈ T_R_floorQuotient, SO M_R_floorQuotient x.1 x.2 := by
  obtain ⟨h0, h1, h2, h3, h6, h7, h10, h11, h12, h15⟩ := e0_R_floorQuotient
  refine ac (s_lldn (M := M_R_floorQuotient) (pc := 0) (k := 2) h0) ?_
  refine ac (s_lconst (M := M_R_floorQuotient) (pc := 1) h1 (by decide)) ?_
  refine ac (s_lc_ne (M := M_R_floorQuotient) (pc := 2) h2 h3 (by decide)) ?_
  refine ac (s_lconst (M := M_R_floorQuotient) (pc := 6) h6 (by decide)) ?_
  refine ac (s_goto (M := M_R_floorQuotient) (pc := 7) h7 (by decide)) ?_
  refine ac (s_lldn (M := M_R_floorQuotient) (pc := 10) (k := 0) h10) ?_
  refine ac (s_lldn (M := M_R_floorQuotient) (pc := 11) (k := 2) h11) ?_
  refine ac (s_callS (M := M_R_floorQuotient) (pc := 12) (tz_R rfl) h12 q_jMath_floorDiv wd269 wd270) ?_
  refine ac (s_lret (M := M_R_floorQuotient) (pc := 15) h15 rfl) ?_
  exact ac_nil
theorem e0_R_inverseOf : decode prog_1_method_63_code 0 = .ok (.lload_n 0, 1) ∧ decode prog_1_method_63_code 1 = .ok (.iload_n 2, 1) ∧ decode prog_1_method_63_code 2 = .ok (.i2l, 1) ∧ decode prog_1_method_63_code 3 = .ok (.invokestatic 212, 3) ∧ decode prog_1_method_63_code 6 = .ok (.lstore_n 3, 1) ∧ decode prog_1_method_63_code 7 = .ok (.iconst 1, 1) ∧ decode prog_1_method_63_code 8 = .ok (.istore 5, 2) ∧ decode prog_1_method_63_code 10 = .ok (.iload 5, 2) ∧ decode prog_1_method_63_code 12 = .ok (.iload_n 2, 1) ∧ decode prog_1_method_63_code 13 = .ok (.if_icmp .ge 27, 3) ∧ decode prog_1_method_63_code 16 = .ok (.lload_n 3, 1) ∧ decode prog_1_method_63_code 17 = .ok (.iload 5, 2) := by decide +kernel
theorem e1_R_inverseOf : decode prog_1_method_63_code 19 = .ok (.i2l, 1) ∧ decode prog_1_method_63_code 20 = .ok (.lmul, 1) ∧ decode prog_1_method_63_code 21 = .ok (.iload_n 2, 1) ∧ decode prog_1_method_63_code 22 = .ok (.i2l, 1) ∧ decode prog_1_method_63_code 23 = .ok (.invokestatic 212, 3) ∧ decode prog_1_method_63_code 26 = .ok (.lconst 1, 1) ∧ decode prog_1_method_63_code 27 = .ok (.lcmp, 1) ∧ decode prog_1_method_63_code 28 = .ok (.ifCond .ne 6, 3) ∧ decode prog_1_method_63_code 31 = .ok (.iload 5, 2) ∧ decode prog_1_method_63_code 33 = .ok (.ireturn, 1) ∧ decode prog_1_method_63_code 34 = .ok (.iinc 5 1, 3) ∧ decode prog_1_method_63_code 37 = .ok (.goto (-27), 3) := by decide +kernel
theorem e2_R_inverseOf : decode prog_1_method_63_code 40 = .ok (.iconst 0, 1) ∧ decode prog_1_method_63_code 41 = .ok (.ireturn, 1) := by decide +kernel
def T_R_inverseOf : TT := [(0, o_lld 0 1), (1, o_ild 2 2), (2, o_i2l 3), (3, o_call M_R_floorRest 2 6), (6, o_lst 3 7), (7, o_push (.int (iI (1))) 8), (8, o_ist 5 10), (10, o_ild 5 12), (12, o_ild 2 13), (13, o_icmp_ge 40 16), (16, o_lld 3 17), (17, o_ild 5 19), (19, o_i2l 20), (20, o_lmul 21), (21, o_ild 2 22), (22, o_i2l 23), (23, o_call M_R_floorRest 2 26), (26, o_push (.long (lI 1)) 27), (27, o_lc_ne 34 31), (31, o_ild 5 33), (33, o_iret), (34, o_iinc 5 (iI (1)) 37), (37, o_goto 10), (40, o_push (.int (iI (0))) 41), (41, o_iret)]
theorem k_R_inverseOf : ∀ x ∈ T_R_inverseOf, SO M_R_inverseOf x.1 x.2 := by
  obtain ⟨h0, h1, h2, h3, h6, h7, h8, h10, h12, h13, h16, h17⟩ := e0_R_inverseOf
  obtain ⟨h19, h20, h21, h22, h23, h26, h27, h28, h31, h33, h34, h37⟩ := e1_R_inverseOf
  obtain ⟨h40, h41⟩ := e2_R_inverseOf
  refine ac (s_lldn (M := M_R_inverseOf) (pc := 0) (k := 0) h0) ?_
  refine ac (s_ildn (M := M_R_inverseOf) (pc := 1) (k := 2) h1) ?_
  refine ac (s_i2l (M := M_R_inverseOf) (pc := 2) h2) ?_
  refine ac (s_callS (M := M_R_inverseOf) (pc := 3) (tz_R rfl) h3 q_R_floorRest wd275 wd276) ?_
  refine ac (s_lstn (M := M_R_inverseOf) (pc := 6) (k := 3) h6 (by decide)) ?_
  refine ac (s_iconst (M := M_R_inverseOf) (pc := 7) h7 rfl) ?_
  refine ac (s_ist (M := M_R_inverseOf) (pc := 8) h8 (by decide)) ?_
  refine ac (s_ild (M := M_R_inverseOf) (pc := 10) h10) ?_
  refine ac (s_ildn (M := M_R_inverseOf) (pc := 12) (k := 2) h12) ?_
  refine ac (s_icmp_ge (M := M_R_inverseOf) (pc := 13) h13 (by decide)) ?_
  refine ac (s_lldn (M := M_R_inverseOf) (pc := 16) (k := 3) h16) ?_
  refine ac (s_ild (M := M_R_inverseOf) (pc := 17) h17) ?_
  refine ac (s_i2l (M := M_R_inverseOf) (pc := 19) h19) ?_
  refine ac (s_lmul (M := M_R_inverseOf) (pc := 20) h20) ?_
  refine ac (s_ildn (M := M_R_inverseOf) (pc := 21) (k := 2) h21) ?_
  refine ac (s_i2l (M := M_R_inverseOf) (pc := 22) h22) ?_
  refine ac (s_callS (M := M_R_inverseOf) (pc := 23) (tz_R rfl) h23 q_R_floorRest wd275 wd276) ?_
  refine ac (s_lconst (M := M_R_inverseOf) (pc := 26) h26 (by decide)) ?_
  refine ac (s_lc_ne (M := M_R_inverseOf) (pc := 27) h27 h28 (by decide)) ?_
  refine ac (s_ild (M := M_R_inverseOf) (pc := 31) h31) ?_
  refine ac (s_iret (M := M_R_inverseOf) (pc := 33) h33 rfl) ?_
  refine ac (s_iinc (M := M_R_inverseOf) (pc := 34) h34 rfl (by decide)) ?_
  refine ac (s_goto (M := M_R_inverseOf) (pc := 37) h37 (by decide)) ?_
  refine ac (s_iconst (M := M_R_inverseOf) (pc := 40) h40 rfl) ?_
  refine ac (s_iret (M := M_R_inverseOf) (pc := 41) h41 rfl) ?_
  exact ac_nil
theorem e0_R_floorRest : decode prog_1_method_56_code 0 = .ok (.lload_n 2, 1) ∧ decode prog_1_method_56_code 1 = .ok (.lconst 1, 1) ∧ decode prog_1_method_56_code 2 = .ok (.lcmp, 1) ∧ decode prog_1_method_56_code 3 = .ok (.ifCond .ge 7, 3) ∧ decode prog_1_method_56_code 6 = .ok (.lconst 0, 1) ∧ decode prog_1_method_56_code 7 = .ok (.goto 8, 3) ∧ decode prog_1_method_56_code 10 = .ok (.lload_n 0, 1) ∧ decode prog_1_method_56_code 11 = .ok (.lload_n 2, 1) ∧ decode prog_1_method_56_code 12 = .ok (.invokestatic 342, 3) ∧ decode prog_1_method_56_code 15 = .ok (.lreturn, 1) := by decide +kernel
def T_R_floorRest : TT := [(0, o_lld 2 1), (1, o_push (.long (lI 1)) 2), (2, o_lc_ge 10 6), (6, o_push (.long (lI 0)) 7), (7, o_goto 15), (10, o_lld 0 11), (11, o_lld 2 12), (12, o_call M_jMath_floorMod 2 15), (15, o_lret)]
theorem k_R_floorRest : ∀ x ∈ T_R_floorRest, SO M_R_floorRest x.1 x.2 := by
  obtain ⟨h0, h1, h2, h3, h6, h7, h10, h11, h12, h15⟩ := e0_R_floorRest
  refine ac (s_lldn (M := M_R_floorRest) (pc := 0) (k := 2) h0) ?_
  refine ac (s_lconst (M := M_R_floorRest) (pc := 1) h1 (by decide)) ?_
  refine ac (s_lc_ge (M := M_R_floorRest) (pc := 2) h2 h3 (by decide)) ?_
  refine ac (s_lconst (M := M_R_floorRest) (pc := 6) h6 (by decide)) ?_
  refine ac (s_goto (M := M_R_floorRest) (pc := 7) h7 (by decide)) ?_
  refine ac (s_lldn (M := M_R_floorRest) (pc := 10) (k := 0) h10) ?_
  refine ac (s_lldn (M := M_R_floorRest) (pc := 11) (k := 2) h11) ?_
  refine ac (s_callS (M := M_R_floorRest) (pc := 12) (tz_R rfl) h12 q_jMath_floorMod wd278 wd279) ?_
  refine ac (s_lret (M := M_R_floorRest) (pc := 15) h15 rfl) ?_
  exact ac_nil
theorem e0_R_count : decode prog_1_method_8_code 0 = .ok (.iload_n 1, 1) ∧ decode prog_1_method_8_code 1 = .ok (.tableswitch 107 0 6 #[43, 54, 65, 73, 81, 90, 99], 43) ∧ decode prog_1_method_8_code 44 = .ok (.aload_n 0, 1) ∧ decode prog_1_method_8_code 45 = .ok (.getfield 16, 3) ∧ decode prog_1_method_8_code 48 = .ok (.getfield 61, 3) ∧ decode prog_1_method_8_code 51 = .ok (.getfield 109, 3) ∧ decode prog_1_method_8_code 54 = .ok (.ireturn, 1) ∧ decode prog_1_method_8_code 55 = .ok (.aload_n 0, 1) ∧ decode prog_1_method_8_code 56 = .ok (.getfield 16, 3) ∧ decode prog_1_method_8_code 59 = .ok (.getfield 61, 3) ∧ decode prog_1_method_8_code 62 = .ok (.getfield 132, 3) ∧ decode prog_1_method_8_code 65 = .ok (.ireturn, 1) := by decide +kernel
theorem e1_R_count : decode prog_1_method_8_code 66 = .ok (.aload_n 0, 1) ∧ decode prog_1_method_8_code 67 = .ok (.getfield 16, 3) ∧ decode prog_1_method_8_code 70 = .ok (.getfield 135, 3) ∧ decode prog_1_method_8_code 73 = .ok (.ireturn, 1) ∧ decode prog_1_method_8_code 74 = .ok (.aload_n 0, 1) ∧ decode prog_1_method_8_code 75 = .ok (.getfield 16, 3) ∧ decode prog_1_method_8_code 78 = .ok (.invokevirtual 138, 3) ∧ decode prog_1_method_8_code 81 = .ok (.ireturn, 1) ∧ decode prog_1_method_8_code 82 = .ok (.aload_n 0, 1) ∧ decode prog_1_method_8_code 83 = .ok (.getfield 16, 3) ∧ decode prog_1_method_8_code 86 = .ok (.iconst 0, 1) ∧ decode prog_1_method_8_code 87 = .ok (.invokevirtual 142, 3) := by decide +kernel
theorem e2_R_count : decode prog_1_method_8_code 90 = .ok (.ireturn, 1) ∧ decode prog_1_method_8_code 91 = .ok (.aload_n 0, 1) ∧ decode prog_1_method_8_code 92 = .ok (.getfield 16, 3) ∧ decode prog_1_method_8_code 95 = .ok (.iconst (-1), 1) ∧ decode prog_1_method_8_code 96 = .ok (.invokevirtual 142, 3) ∧ decode prog_1_method_8_code 99 = .ok (.ireturn, 1) ∧ decode prog_1_method_8_code 100 = .ok (.aload_n 0, 1) ∧ decode prog_1_method_8_code 101 = .ok (.getfield 29, 3) ∧ decode prog_1_method_8_code 104 = .ok (.getfield 146, 3) ∧ decode prog_1_method_8_code 107 = .ok (.ireturn, 1) ∧ decode prog_1_method_8_code 108 = .ok (.new 147, 3) ∧ decode prog_1_method_8_code 111 = .ok (.dup, 1) := by decide +kernel
theorem e3_R_count : decode prog_1_method_8_code 112 = .ok (.invokespecial 149, 3) ∧ decode prog_1_method_8_code 115 = .ok (.athrow, 1) := by decide +kernel
def T_R_count : TT := [(0, o_ild 1 1), (1, o_tsw 0 [44, 55, 66, 74, 82, 91, 100] 108), (44, o_ald 0 45), (45, o_get 0 2 48), (48, o_get 1 0 51), (51, o_get 2 2 54), (54, o_iret), (55, o_ald 0 56), (56, o_get 0 2 59), (59, o_get 1 0 62), (62, o_get 2 3 65), (65, o_iret), (66, o_ald 0 67), (67, o_get 0 2 70), (70, o_get 1 3 73), (73, o_iret), (74, o_ald 0 75), (75, o_get 0 2 78), (78, o_callV M_Ml_soundRegisters 1 1 81), (81, o_iret), (82, o_ald 0 83), (83, o_get 0 2 86), (86, o_push (.int (iI (0))) 87), (87, o_callV M_Ml_registersWithSign 1 2 90), (90, o_iret), (91, o_ald 0 92), (92, o_get 0 2 95), (95, o_push (.int (iI (-1))) 96), (96, o_callV M_Ml_registersWithSign 1 2 99), (99, o_iret), (100, o_ald 0 101), (101, o_get 0 6 104), (104, o_get 3 2 107), (107, o_iret), (108, o_throw "java/lang/IllegalArgumentException")]
theorem k_R_count : ∀ x ∈ T_R_count, SO M_R_count x.1 x.2 := by
  obtain ⟨h0, h1, h44, h45, h48, h51, h54, h55, h56, h59, h62, h65⟩ := e0_R_count
  obtain ⟨h66, h67, h70, h73, h74, h75, h78, h81, h82, h83, h86, h87⟩ := e1_R_count
  obtain ⟨h90, h91, h92, h95, h96, h99, h100, h101, h104, h107, h108, h111⟩ := e2_R_count
  obtain ⟨h112, h115⟩ := e3_R_count
  refine ac (s_ildn (M := M_R_count) (pc := 0) (k := 1) h0) ?_
  refine ac (s_tsw (M := M_R_count) (pc := 1) h1 (by decide) (by decide) (sw_all _ _ (by decide))) ?_
  refine ac (s_aldn (M := M_R_count) (pc := 44) (k := 0) h44) ?_
  refine ac (s_get (M := M_R_count) (pc := 45) (T := TX7) (N := 12) h45 rfl in_X7 (by decide) wd287) ?_
  refine ac (s_get (M := M_R_count) (pc := 48) (T := TX1) (N := 4) h48 rfl in_X1 (by decide) wd100) ?_
  refine ac (s_get (M := M_R_count) (pc := 51) (T := TX2) (N := 6) h51 rfl in_X2 (by decide) wd74) ?_
  refine ac (s_iret (M := M_R_count) (pc := 54) h54 rfl) ?_
  refine ac (s_aldn (M := M_R_count) (pc := 55) (k := 0) h55) ?_
  refine ac (s_get (M := M_R_count) (pc := 56) (T := TX7) (N := 12) h56 rfl in_X7 (by decide) wd287) ?_
  refine ac (s_get (M := M_R_count) (pc := 59) (T := TX1) (N := 4) h59 rfl in_X1 (by decide) wd100) ?_
  refine ac (s_get (M := M_R_count) (pc := 62) (T := TX2) (N := 6) h62 rfl in_X2 (by decide) wd77) ?_
  refine ac (s_iret (M := M_R_count) (pc := 65) h65 rfl) ?_
  refine ac (s_aldn (M := M_R_count) (pc := 66) (k := 0) h66) ?_
  refine ac (s_get (M := M_R_count) (pc := 67) (T := TX7) (N := 12) h67 rfl in_X7 (by decide) wd287) ?_
  refine ac (s_get (M := M_R_count) (pc := 70) (T := TX1) (N := 4) h70 rfl in_X1 (by decide) wd106) ?_
  refine ac (s_iret (M := M_R_count) (pc := 73) h73 rfl) ?_
  refine ac (s_aldn (M := M_R_count) (pc := 74) (k := 0) h74) ?_
  refine ac (s_get (M := M_R_count) (pc := 75) (T := TX7) (N := 12) h75 rfl in_X7 (by decide) wd287) ?_
  refine ac (s_callV (M := M_R_count) (pc := 78) (tz_R rfl) h78 q_Ml_soundRegisters wd326 wd327 wd328 rfl (T := TX1) (N := 4) rfl) ?_
  refine ac (s_iret (M := M_R_count) (pc := 81) h81 rfl) ?_
  refine ac (s_aldn (M := M_R_count) (pc := 82) (k := 0) h82) ?_
  refine ac (s_get (M := M_R_count) (pc := 83) (T := TX7) (N := 12) h83 rfl in_X7 (by decide) wd287) ?_
  refine ac (s_iconst (M := M_R_count) (pc := 86) h86 rfl) ?_
  refine ac (s_callV (M := M_R_count) (pc := 87) (tz_R rfl) h87 q_Ml_registersWithSign wd347 wd348 wd349 rfl (T := TX1) (N := 4) rfl) ?_
  refine ac (s_iret (M := M_R_count) (pc := 90) h90 rfl) ?_
  refine ac (s_aldn (M := M_R_count) (pc := 91) (k := 0) h91) ?_
  refine ac (s_get (M := M_R_count) (pc := 92) (T := TX7) (N := 12) h92 rfl in_X7 (by decide) wd287) ?_
  refine ac (s_iconst (M := M_R_count) (pc := 95) h95 rfl) ?_
  refine ac (s_callV (M := M_R_count) (pc := 96) (tz_R rfl) h96 q_Ml_registersWithSign wd347 wd348 wd349 rfl (T := TX1) (N := 4) rfl) ?_
  refine ac (s_iret (M := M_R_count) (pc := 99) h99 rfl) ?_
  refine ac (s_aldn (M := M_R_count) (pc := 100) (k := 0) h100) ?_
  refine ac (s_get (M := M_R_count) (pc := 101) (T := TX7) (N := 12) h101 rfl in_X7 (by decide) wd291) ?_
  refine ac (s_get (M := M_R_count) (pc := 104) (T := TX0) (N := 3) h104 rfl in_X0 (by decide) wd128) ?_
  refine ac (s_iret (M := M_R_count) (pc := 107) h107 rfl) ?_
  refine ac (s_throw (M := M_R_count) (pc := 108) (tz_R rfl) h108 h111 h112 h115 (by decide +kernel) thr_IllegalArgumentException) ?_
  exact ac_nil
theorem e0_R_account : decode prog_1_method_9_code 0 = .ok (.iload_n 1, 1) ∧ decode prog_1_method_9_code 1 = .ok (.ifCond .lt 9, 3) ∧ decode prog_1_method_9_code 4 = .ok (.iload_n 1, 1) ∧ decode prog_1_method_9_code 5 = .ok (.bipush 8, 2) ∧ decode prog_1_method_9_code 7 = .ok (.if_icmp .lt 11, 3) ∧ decode prog_1_method_9_code 10 = .ok (.new 147, 3) ∧ decode prog_1_method_9_code 13 = .ok (.dup, 1) ∧ decode prog_1_method_9_code 14 = .ok (.invokespecial 149, 3) ∧ decode prog_1_method_9_code 17 = .ok (.athrow, 1) ∧ decode prog_1_method_9_code 18 = .ok (.aload_n 0, 1) ∧ decode prog_1_method_9_code 19 = .ok (.getfield 16, 3) ∧ decode prog_1_method_9_code 22 = .ok (.iload_n 1, 1) := by decide +kernel
theorem e1_R_account : decode prog_1_method_9_code 23 = .ok (.invokevirtual 150, 3) ∧ decode prog_1_method_9_code 26 = .ok (.ireturn, 1) := by decide +kernel
def T_R_account : TT := [(0, o_ild 1 1), (1, o_if_lt 10 4), (4, o_ild 1 5), (5, o_push (.int (iI (8))) 7), (7, o_icmp_lt 18 10), (10, o_throw "java/lang/IllegalArgumentException"), (18, o_ald 0 19), (19, o_get 0 2 22), (22, o_ild 1 23), (23, o_callV M_Ml_accountAt 1 2 26), (26, o_iret)]
theorem k_R_account : ∀ x ∈ T_R_account, SO M_R_account x.1 x.2 := by
  obtain ⟨h0, h1, h4, h5, h7, h10, h13, h14, h17, h18, h19, h22⟩ := e0_R_account
  obtain ⟨h23, h26⟩ := e1_R_account
  refine ac (s_ildn (M := M_R_account) (pc := 0) (k := 1) h0) ?_
  refine ac (s_if_lt (M := M_R_account) (pc := 1) h1 (by decide)) ?_
  refine ac (s_ildn (M := M_R_account) (pc := 4) (k := 1) h4) ?_
  refine ac (s_bipush (M := M_R_account) (pc := 5) h5 (by decide)) ?_
  refine ac (s_icmp_lt (M := M_R_account) (pc := 7) h7 (by decide)) ?_
  refine ac (s_throw (M := M_R_account) (pc := 10) (tz_R rfl) h10 h13 h14 h17 (by decide +kernel) thr_IllegalArgumentException) ?_
  refine ac (s_aldn (M := M_R_account) (pc := 18) (k := 0) h18) ?_
  refine ac (s_get (M := M_R_account) (pc := 19) (T := TX7) (N := 12) h19 rfl in_X7 (by decide) wd287) ?_
  refine ac (s_ildn (M := M_R_account) (pc := 22) (k := 1) h22) ?_
  refine ac (s_callV (M := M_R_account) (pc := 23) (tz_R rfl) h23 q_Ml_accountAt wd422 wd423 wd424 rfl (T := TX1) (N := 4) rfl) ?_
  refine ac (s_iret (M := M_R_account) (pc := 26) h26 rfl) ?_
  exact ac_nil
theorem e0_R_bound : decode prog_1_method_10_code 0 = .ok (.iload_n 1, 1) ∧ decode prog_1_method_10_code 1 = .ok (.tableswitch 60 0 2 #[27, 38, 49], 27) ∧ decode prog_1_method_10_code 28 = .ok (.aload_n 0, 1) ∧ decode prog_1_method_10_code 29 = .ok (.getfield 16, 3) ∧ decode prog_1_method_10_code 32 = .ok (.getfield 61, 3) ∧ decode prog_1_method_10_code 35 = .ok (.getfield 153, 3) ∧ decode prog_1_method_10_code 38 = .ok (.lreturn, 1) ∧ decode prog_1_method_10_code 39 = .ok (.aload_n 0, 1) ∧ decode prog_1_method_10_code 40 = .ok (.getfield 16, 3) ∧ decode prog_1_method_10_code 43 = .ok (.getfield 61, 3) ∧ decode prog_1_method_10_code 46 = .ok (.getfield 157, 3) ∧ decode prog_1_method_10_code 49 = .ok (.lreturn, 1) := by decide +kernel
theorem e1_R_bound : decode prog_1_method_10_code 50 = .ok (.aload_n 0, 1) ∧ decode prog_1_method_10_code 51 = .ok (.getfield 16, 3) ∧ decode prog_1_method_10_code 54 = .ok (.getfield 61, 3) ∧ decode prog_1_method_10_code 57 = .ok (.invokevirtual 160, 3) ∧ decode prog_1_method_10_code 60 = .ok (.lreturn, 1) ∧ decode prog_1_method_10_code 61 = .ok (.new 147, 3) ∧ decode prog_1_method_10_code 64 = .ok (.dup, 1) ∧ decode prog_1_method_10_code 65 = .ok (.invokespecial 149, 3) ∧ decode prog_1_method_10_code 68 = .ok (.athrow, 1) := by decide +kernel
def T_R_bound : TT := [(0, o_ild 1 1), (1, o_tsw 0 [28, 39, 50] 61), (28, o_ald 0 29), (29, o_get 0 2 32), (32, o_get 1 0 35), (35, o_get 2 5 38), (38, o_lret), (39, o_ald 0 40), (40, o_get 0 2 43), (43, o_get 1 0 46), (46, o_get 2 4 49), (49, o_lret), (50, o_ald 0 51), (51, o_get 0 2 54), (54, o_get 1 0 57), (57, o_callV M_Mo_half 2 1 60), (60, o_lret), (61, o_throw "java/lang/IllegalArgumentException")]
theorem k_R_bound : ∀ x ∈ T_R_bound, SO M_R_bound x.1 x.2 := by
  obtain ⟨h0, h1, h28, h29, h32, h35, h38, h39, h40, h43, h46, h49⟩ := e0_R_bound
  obtain ⟨h50, h51, h54, h57, h60, h61, h64, h65, h68⟩ := e1_R_bound
  refine ac (s_ildn (M := M_R_bound) (pc := 0) (k := 1) h0) ?_
  refine ac (s_tsw (M := M_R_bound) (pc := 1) h1 (by decide) (by decide) (sw_all _ _ (by decide))) ?_
  refine ac (s_aldn (M := M_R_bound) (pc := 28) (k := 0) h28) ?_
  refine ac (s_get (M := M_R_bound) (pc := 29) (T := TX7) (N := 12) h29 rfl in_X7 (by decide) wd287) ?_
  refine ac (s_get (M := M_R_bound) (pc := 32) (T := TX1) (N := 4) h32 rfl in_X1 (by decide) wd100) ?_
  refine ac (s_get (M := M_R_bound) (pc := 35) (T := TX2) (N := 6) h35 rfl in_X2 (by decide) wd82) ?_
  refine ac (s_lret (M := M_R_bound) (pc := 38) h38 rfl) ?_
  refine ac (s_aldn (M := M_R_bound) (pc := 39) (k := 0) h39) ?_
  refine ac (s_get (M := M_R_bound) (pc := 40) (T := TX7) (N := 12) h40 rfl in_X7 (by decide) wd287) ?_
  refine ac (s_get (M := M_R_bound) (pc := 43) (T := TX1) (N := 4) h43 rfl in_X1 (by decide) wd100) ?_
  refine ac (s_get (M := M_R_bound) (pc := 46) (T := TX2) (N := 6) h46 rfl in_X2 (by decide) wd80) ?_
  refine ac (s_lret (M := M_R_bound) (pc := 49) h49 rfl) ?_
  refine ac (s_aldn (M := M_R_bound) (pc := 50) (k := 0) h50) ?_
  refine ac (s_get (M := M_R_bound) (pc := 51) (T := TX7) (N := 12) h51 rfl in_X7 (by decide) wd287) ?_
  refine ac (s_get (M := M_R_bound) (pc := 54) (T := TX1) (N := 4) h54 rfl in_X1 (by decide) wd100) ?_
  refine ac (s_callV (M := M_R_bound) (pc := 57) (tz_R rfl) h57 q_Mo_half wd430 wd343 wd344 rfl (T := TX2) (N := 6) rfl) ?_
  refine ac (s_lret (M := M_R_bound) (pc := 60) h60 rfl) ?_
  refine ac (s_throw (M := M_R_bound) (pc := 61) (tz_R rfl) h61 h64 h65 h68 (by decide +kernel) thr_IllegalArgumentException) ?_
  exact ac_nil
theorem e0_R_modulus : decode prog_1_method_11_code 0 = .ok (.aload_n 0, 1) ∧ decode prog_1_method_11_code 1 = .ok (.iload_n 1, 1) ∧ decode prog_1_method_11_code 2 = .ok (.invokevirtual 164, 3) ∧ decode prog_1_method_11_code 5 = .ok (.aload_n 0, 1) ∧ decode prog_1_method_11_code 6 = .ok (.getfield 16, 3) ∧ decode prog_1_method_11_code 9 = .ok (.getfield 61, 3) ∧ decode prog_1_method_11_code 12 = .ok (.iload_n 1, 1) ∧ decode prog_1_method_11_code 13 = .ok (.invokevirtual 167, 3) ∧ decode prog_1_method_11_code 16 = .ok (.ireturn, 1) := by decide +kernel
def T_R_modulus : TT := [(0, o_ald 0 1), (1, o_ild 1 2), (2, o_alt (o_callV M_R_needModulus 0 2 5) (o_callVB M_R_needModulus 0 2 1 6 5)), (5, o_ald 0 6), (6, o_get 0 2 9), (9, o_get 1 0 12), (12, o_ild 1 13), (13, o_callV M_Mo_at 2 2 16), (16, o_iret)]
theorem k_R_modulus : ∀ x ∈ T_R_modulus, SO M_R_modulus x.1 x.2 := by
  obtain ⟨h0, h1, h2, h5, h6, h9, h12, h13, h16⟩ := e0_R_modulus
  refine ac (s_aldn (M := M_R_modulus) (pc := 0) (k := 0) h0) ?_
  refine ac (s_ildn (M := M_R_modulus) (pc := 1) (k := 1) h1) ?_
  refine ac (s_alt (M := M_R_modulus) (pc := 2) (s_callV (tz_R rfl) h2 q_R_needModulus wd435 wd437 wd2 rfl (T := TX7) (N := 12) rfl) (s_callVB (mc1 := 1) (ms1 := 6) (tz_R rfl) h2 q_R_needModulus wd435 wd437 wd2 rfl (T := TX7) (N := 12) rfl)) ?_
  refine ac (s_aldn (M := M_R_modulus) (pc := 5) (k := 0) h5) ?_
  refine ac (s_get (M := M_R_modulus) (pc := 6) (T := TX7) (N := 12) h6 rfl in_X7 (by decide) wd287) ?_
  refine ac (s_get (M := M_R_modulus) (pc := 9) (T := TX1) (N := 4) h9 rfl in_X1 (by decide) wd100) ?_
  refine ac (s_ildn (M := M_R_modulus) (pc := 12) (k := 1) h12) ?_
  refine ac (s_callV (M := M_R_modulus) (pc := 13) (tz_R rfl) h13 q_Mo_at wd454 wd263 wd264 rfl (T := TX2) (N := 6) rfl) ?_
  refine ac (s_iret (M := M_R_modulus) (pc := 16) h16 rfl) ?_
  exact ac_nil
theorem e0_R_needModulus : decode prog_1_method_52_code 0 = .ok (.iload_n 1, 1) ∧ decode prog_1_method_52_code 1 = .ok (.ifCond .lt 17, 3) ∧ decode prog_1_method_52_code 4 = .ok (.iload_n 1, 1) ∧ decode prog_1_method_52_code 5 = .ok (.aload_n 0, 1) ∧ decode prog_1_method_52_code 6 = .ok (.getfield 16, 3) ∧ decode prog_1_method_52_code 9 = .ok (.getfield 61, 3) ∧ decode prog_1_method_52_code 12 = .ok (.getfield 109, 3) ∧ decode prog_1_method_52_code 15 = .ok (.if_icmp .lt 11, 3) ∧ decode prog_1_method_52_code 18 = .ok (.new 339, 3) ∧ decode prog_1_method_52_code 21 = .ok (.dup, 1) ∧ decode prog_1_method_52_code 22 = .ok (.invokespecial 341, 3) ∧ decode prog_1_method_52_code 25 = .ok (.athrow, 1) := by decide +kernel
theorem e1_R_needModulus : decode prog_1_method_52_code 26 = .ok (.return_, 1) := by decide +kernel
def T_R_needModulus : TT := [(0, o_ild 1 1), (1, o_if_lt 18 4), (4, o_ild 1 5), (5, o_ald 0 6), (6, o_get 0 2 9), (9, o_get 1 0 12), (12, o_get 2 2 15), (15, o_icmp_lt 26 18), (18, o_throw "java/lang/IndexOutOfBoundsException"), (26, o_vret)]
theorem k_R_needModulus : ∀ x ∈ T_R_needModulus, SO M_R_needModulus x.1 x.2 := by
  obtain ⟨h0, h1, h4, h5, h6, h9, h12, h15, h18, h21, h22, h25⟩ := e0_R_needModulus
  have h26 := e1_R_needModulus
  refine ac (s_ildn (M := M_R_needModulus) (pc := 0) (k := 1) h0) ?_
  refine ac (s_if_lt (M := M_R_needModulus) (pc := 1) h1 (by decide)) ?_
  refine ac (s_ildn (M := M_R_needModulus) (pc := 4) (k := 1) h4) ?_
  refine ac (s_aldn (M := M_R_needModulus) (pc := 5) (k := 0) h5) ?_
  refine ac (s_get (M := M_R_needModulus) (pc := 6) (T := TX7) (N := 12) h6 rfl in_X7 (by decide) wd287) ?_
  refine ac (s_get (M := M_R_needModulus) (pc := 9) (T := TX1) (N := 4) h9 rfl in_X1 (by decide) wd100) ?_
  refine ac (s_get (M := M_R_needModulus) (pc := 12) (T := TX2) (N := 6) h12 rfl in_X2 (by decide) wd74) ?_
  refine ac (s_icmp_lt (M := M_R_needModulus) (pc := 15) h15 (by decide)) ?_
  refine ac (s_throw (M := M_R_needModulus) (pc := 18) (tz_R rfl) h18 h21 h22 h25 (by decide +kernel) thr_IndexOutOfBoundsException) ?_
  refine ac (s_vret (M := M_R_needModulus) (pc := 26) h26 rfl) ?_
  exact ac_nil
theorem e0_R_rest : decode prog_1_method_14_code 0 = .ok (.aload_n 0, 1) ∧ decode prog_1_method_14_code 1 = .ok (.iload_n 1, 1) ∧ decode prog_1_method_14_code 2 = .ok (.invokevirtual 178, 3) ∧ decode prog_1_method_14_code 5 = .ok (.aload_n 0, 1) ∧ decode prog_1_method_14_code 6 = .ok (.iload_n 2, 1) ∧ decode prog_1_method_14_code 7 = .ok (.invokevirtual 164, 3) ∧ decode prog_1_method_14_code 10 = .ok (.aload_n 0, 1) ∧ decode prog_1_method_14_code 11 = .ok (.getfield 16, 3) ∧ decode prog_1_method_14_code 14 = .ok (.iload_n 1, 1) ∧ decode prog_1_method_14_code 15 = .ok (.iload_n 2, 1) ∧ decode prog_1_method_14_code 16 = .ok (.invokevirtual 181, 3) ∧ decode prog_1_method_14_code 19 = .ok (.ireturn, 1) := by decide +kernel
def T_R_rest : TT := [(0, o_ald 0 1), (1, o_ild 1 2), (2, o_alt (o_callV M_R_needRegister 0 2 5) (o_callVB M_R_needRegister 0 2 1 6 5)), (5, o_ald 0 6), (6, o_ild 2 7), (7, o_alt (o_callV M_R_needModulus 0 2 10) (o_callVB M_R_needModulus 0 2 1 6 10)), (10, o_ald 0 11), (11, o_get 0 2 14), (14, o_ild 1 15), (15, o_ild 2 16), (16, o_callV M_Ml_restAt 1 3 19), (19, o_iret)]
theorem k_R_rest : ∀ x ∈ T_R_rest, SO M_R_rest x.1 x.2 := by
  obtain ⟨h0, h1, h2, h5, h6, h7, h10, h11, h14, h15, h16, h19⟩ := e0_R_rest
  refine ac (s_aldn (M := M_R_rest) (pc := 0) (k := 0) h0) ?_
  refine ac (s_ildn (M := M_R_rest) (pc := 1) (k := 1) h1) ?_
  refine ac (s_alt (M := M_R_rest) (pc := 2) (s_callV (tz_R rfl) h2 q_R_needRegister wd459 wd461 wd3 rfl (T := TX7) (N := 12) rfl) (s_callVB (mc1 := 1) (ms1 := 6) (tz_R rfl) h2 q_R_needRegister wd459 wd461 wd3 rfl (T := TX7) (N := 12) rfl)) ?_
  refine ac (s_aldn (M := M_R_rest) (pc := 5) (k := 0) h5) ?_
  refine ac (s_ildn (M := M_R_rest) (pc := 6) (k := 2) h6) ?_
  refine ac (s_alt (M := M_R_rest) (pc := 7) (s_callV (tz_R rfl) h7 q_R_needModulus wd435 wd437 wd2 rfl (T := TX7) (N := 12) rfl) (s_callVB (mc1 := 1) (ms1 := 6) (tz_R rfl) h7 q_R_needModulus wd435 wd437 wd2 rfl (T := TX7) (N := 12) rfl)) ?_
  refine ac (s_aldn (M := M_R_rest) (pc := 10) (k := 0) h10) ?_
  refine ac (s_get (M := M_R_rest) (pc := 11) (T := TX7) (N := 12) h11 rfl in_X7 (by decide) wd287) ?_
  refine ac (s_ildn (M := M_R_rest) (pc := 14) (k := 1) h14) ?_
  refine ac (s_ildn (M := M_R_rest) (pc := 15) (k := 2) h15) ?_
  refine ac (s_callV (M := M_R_rest) (pc := 16) (tz_R rfl) h16 q_Ml_restAt wd463 wd464 wd465 rfl (T := TX1) (N := 4) rfl) ?_
  refine ac (s_iret (M := M_R_rest) (pc := 19) h19 rfl) ?_
  exact ac_nil
theorem e0_R_needRegister : decode prog_1_method_51_code 0 = .ok (.iload_n 1, 1) ∧ decode prog_1_method_51_code 1 = .ok (.ifCond .lt 9, 3) ∧ decode prog_1_method_51_code 4 = .ok (.iload_n 1, 1) ∧ decode prog_1_method_51_code 5 = .ok (.bipush 8, 2) ∧ decode prog_1_method_51_code 7 = .ok (.if_icmp .lt 11, 3) ∧ decode prog_1_method_51_code 10 = .ok (.new 339, 3) ∧ decode prog_1_method_51_code 13 = .ok (.dup, 1) ∧ decode prog_1_method_51_code 14 = .ok (.invokespecial 341, 3) ∧ decode prog_1_method_51_code 17 = .ok (.athrow, 1) ∧ decode prog_1_method_51_code 18 = .ok (.return_, 1) := by decide +kernel
def T_R_needRegister : TT := [(0, o_ild 1 1), (1, o_if_lt 10 4), (4, o_ild 1 5), (5, o_push (.int (iI (8))) 7), (7, o_icmp_lt 18 10), (10, o_throw "java/lang/IndexOutOfBoundsException"), (18, o_vret)]
theorem k_R_needRegister : ∀ x ∈ T_R_needRegister, SO M_R_needRegister x.1 x.2 := by
  obtain ⟨h0, h1, h4, h5, h7, h10, h13, h14, h17, h18⟩ := e0_R_needRegister
  refine ac (s_ildn (M := M_R_needRegister) (pc := 0) (k := 1) h0) ?_
  refine ac (s_if_lt (M := M_R_needRegister) (pc := 1) h1 (by decide)) ?_
  refine ac (s_ildn (M := M_R_needRegister) (pc := 4) (k := 1) h4) ?_
  refine ac (s_bipush (M := M_R_needRegister) (pc := 5) h5 (by decide)) ?_
  refine ac (s_icmp_lt (M := M_R_needRegister) (pc := 7) h7 (by decide)) ?_
  refine ac (s_throw (M := M_R_needRegister) (pc := 10) (tz_R rfl) h10 h13 h14 h17 (by decide +kernel) thr_IndexOutOfBoundsException) ?_
  refine ac (s_vret (M := M_R_needRegister) (pc := 18) h18 rfl) ?_
  exact ac_nil
theorem e0_R_number : decode prog_1_method_19_code 0 = .ok (.aload_n 0, 1) ∧ decode prog_1_method_19_code 1 = .ok (.iload_n 1, 1) ∧ decode prog_1_method_19_code 2 = .ok (.invokevirtual 178, 3) ∧ decode prog_1_method_19_code 5 = .ok (.aload_n 0, 1) ∧ decode prog_1_method_19_code 6 = .ok (.getfield 16, 3) ∧ decode prog_1_method_19_code 9 = .ok (.iload_n 1, 1) ∧ decode prog_1_method_19_code 10 = .ok (.invokevirtual 202, 3) ∧ decode prog_1_method_19_code 13 = .ok (.lreturn, 1) := by decide +kernel
def T_R_number : TT := [(0, o_ald 0 1), (1, o_ild 1 2), (2, o_alt (o_callV M_R_needRegister 0 2 5) (o_callVB M_R_needRegister 0 2 1 6 5)), (5, o_ald 0 6), (6, o_get 0 2 9), (9, o_ild 1 10), (10, o_callV M_Ml_numberAt 1 2 13), (13, o_lret)]
theorem k_R_number : ∀ x ∈ T_R_number, SO M_R_number x.1 x.2 := by
  obtain ⟨h0, h1, h2, h5, h6, h9, h10, h13⟩ := e0_R_number
  refine ac (s_aldn (M := M_R_number) (pc := 0) (k := 0) h0) ?_
  refine ac (s_ildn (M := M_R_number) (pc := 1) (k := 1) h1) ?_
  refine ac (s_alt (M := M_R_number) (pc := 2) (s_callV (tz_R rfl) h2 q_R_needRegister wd459 wd461 wd3 rfl (T := TX7) (N := 12) rfl) (s_callVB (mc1 := 1) (ms1 := 6) (tz_R rfl) h2 q_R_needRegister wd459 wd461 wd3 rfl (T := TX7) (N := 12) rfl)) ?_
  refine ac (s_aldn (M := M_R_number) (pc := 5) (k := 0) h5) ?_
  refine ac (s_get (M := M_R_number) (pc := 6) (T := TX7) (N := 12) h6 rfl in_X7 (by decide) wd287) ?_
  refine ac (s_ildn (M := M_R_number) (pc := 9) (k := 1) h9) ?_
  refine ac (s_callV (M := M_R_number) (pc := 10) (tz_R rfl) h10 q_Ml_numberAt wd473 wd335 wd336 rfl (T := TX1) (N := 4) rfl) ?_
  refine ac (s_lret (M := M_R_number) (pc := 13) h13 rfl) ?_
  exact ac_nil
theorem e0_R_isSound : decode prog_1_method_20_code 0 = .ok (.aload_n 0, 1) ∧ decode prog_1_method_20_code 1 = .ok (.iload_n 1, 1) ∧ decode prog_1_method_20_code 2 = .ok (.invokevirtual 178, 3) ∧ decode prog_1_method_20_code 5 = .ok (.aload_n 0, 1) ∧ decode prog_1_method_20_code 6 = .ok (.getfield 16, 3) ∧ decode prog_1_method_20_code 9 = .ok (.iload_n 1, 1) ∧ decode prog_1_method_20_code 10 = .ok (.invokevirtual 205, 3) ∧ decode prog_1_method_20_code 13 = .ok (.ireturn, 1) := by decide +kernel
def T_R_isSound : TT := [(0, o_ald 0 1), (1, o_ild 1 2), (2, o_alt (o_callV M_R_needRegister 0 2 5) (o_callVB M_R_needRegister 0 2 1 6 5)), (5, o_ald 0 6), (6, o_get 0 2 9), (9, o_ild 1 10), (10, o_callV M_Ml_soundAt 1 2 13), (13, o_zret)]
theorem k_R_isSound : ∀ x ∈ T_R_isSound, SO M_R_isSound x.1 x.2 := by
  obtain ⟨h0, h1, h2, h5, h6, h9, h10, h13⟩ := e0_R_isSound
  refine ac (s_aldn (M := M_R_isSound) (pc := 0) (k := 0) h0) ?_
  refine ac (s_ildn (M := M_R_isSound) (pc := 1) (k := 1) h1) ?_
  refine ac (s_alt (M := M_R_isSound) (pc := 2) (s_callV (tz_R rfl) h2 q_R_needRegister wd459 wd461 wd3 rfl (T := TX7) (N := 12) rfl) (s_callVB (mc1 := 1) (ms1 := 6) (tz_R rfl) h2 q_R_needRegister wd459 wd461 wd3 rfl (T := TX7) (N := 12) rfl)) ?_
  refine ac (s_aldn (M := M_R_isSound) (pc := 5) (k := 0) h5) ?_
  refine ac (s_get (M := M_R_isSound) (pc := 6) (T := TX7) (N := 12) h6 rfl in_X7 (by decide) wd287) ?_
  refine ac (s_ildn (M := M_R_isSound) (pc := 9) (k := 1) h9) ?_
  refine ac (s_callV (M := M_R_isSound) (pc := 10) (tz_R rfl) h10 q_Ml_soundAt wd478 wd331 wd332 rfl (T := TX1) (N := 4) rfl) ?_
  refine ac (s_zret (M := M_R_isSound) (pc := 13) h13 rfl) ?_
  exact ac_nil
theorem e0_R_compare : decode prog_1_method_21_code 0 = .ok (.aload_n 0, 1) ∧ decode prog_1_method_21_code 1 = .ok (.iload_n 1, 1) ∧ decode prog_1_method_21_code 2 = .ok (.invokevirtual 178, 3) ∧ decode prog_1_method_21_code 5 = .ok (.aload_n 0, 1) ∧ decode prog_1_method_21_code 6 = .ok (.iload_n 2, 1) ∧ decode prog_1_method_21_code 7 = .ok (.invokevirtual 178, 3) ∧ decode prog_1_method_21_code 10 = .ok (.aload_n 0, 1) ∧ decode prog_1_method_21_code 11 = .ok (.getfield 16, 3) ∧ decode prog_1_method_21_code 14 = .ok (.iload_n 1, 1) ∧ decode prog_1_method_21_code 15 = .ok (.iload_n 2, 1) ∧ decode prog_1_method_21_code 16 = .ok (.invokevirtual 209, 3) ∧ decode prog_1_method_21_code 19 = .ok (.ireturn, 1) := by decide +kernel
def T_R_compare : TT := [(0, o_ald 0 1), (1, o_ild 1 2), (2, o_alt (o_callV M_R_needRegister 0 2 5) (o_callVB M_R_needRegister 0 2 1 6 5)), (5, o_ald 0 6), (6, o_ild 2 7), (7, o_alt (o_callV M_R_needRegister 0 2 10) (o_callVB M_R_needRegister 0 2 1 6 10)), (10, o_ald 0 11), (11, o_get 0 2 14), (14, o_ild 1 15), (15, o_ild 2 16), (16, o_callV M_Ml_orderOf 1 3 19), (19, o_iret)]
theorem k_R_compare : ∀ x ∈ T_R_compare, SO M_R_compare x.1 x.2 := by
  obtain ⟨h0, h1, h2, h5, h6, h7, h10, h11, h14, h15, h16, h19⟩ := e0_R_compare
  refine ac (s_aldn (M := M_R_compare) (pc := 0) (k := 0) h0) ?_
  refine ac (s_ildn (M := M_R_compare) (pc := 1) (k := 1) h1) ?_
  refine ac (s_alt (M := M_R_compare) (pc := 2) (s_callV (tz_R rfl) h2 q_R_needRegister wd459 wd461 wd3 rfl (T := TX7) (N := 12) rfl) (s_callVB (mc1 := 1) (ms1 := 6) (tz_R rfl) h2 q_R_needRegister wd459 wd461 wd3 rfl (T := TX7) (N := 12) rfl)) ?_
  refine ac (s_aldn (M := M_R_compare) (pc := 5) (k := 0) h5) ?_
  refine ac (s_ildn (M := M_R_compare) (pc := 6) (k := 2) h6) ?_
  refine ac (s_alt (M := M_R_compare) (pc := 7) (s_callV (tz_R rfl) h7 q_R_needRegister wd459 wd461 wd3 rfl (T := TX7) (N := 12) rfl) (s_callVB (mc1 := 1) (ms1 := 6) (tz_R rfl) h7 q_R_needRegister wd459 wd461 wd3 rfl (T := TX7) (N := 12) rfl)) ?_
  refine ac (s_aldn (M := M_R_compare) (pc := 10) (k := 0) h10) ?_
  refine ac (s_get (M := M_R_compare) (pc := 11) (T := TX7) (N := 12) h11 rfl in_X7 (by decide) wd287) ?_
  refine ac (s_ildn (M := M_R_compare) (pc := 14) (k := 1) h14) ?_
  refine ac (s_ildn (M := M_R_compare) (pc := 15) (k := 2) h15) ?_
  refine ac (s_callV (M := M_R_compare) (pc := 16) (tz_R rfl) h16 q_Ml_orderOf wd483 wd484 wd485 rfl (T := TX1) (N := 4) rfl) ?_
  refine ac (s_iret (M := M_R_compare) (pc := 19) h19 rfl) ?_
  exact ac_nil
theorem e0_R_extend : decode prog_1_method_22_code 0 = .ok (.aload_n 0, 1) ∧ decode prog_1_method_22_code 1 = .ok (.iload_n 1, 1) ∧ decode prog_1_method_22_code 2 = .ok (.invokevirtual 178, 3) ∧ decode prog_1_method_22_code 5 = .ok (.iload_n 2, 1) ∧ decode prog_1_method_22_code 6 = .ok (.iconst 2, 1) ∧ decode prog_1_method_22_code 7 = .ok (.if_icmp .lt 10, 3) ∧ decode prog_1_method_22_code 10 = .ok (.iload_n 2, 1) ∧ decode prog_1_method_22_code 11 = .ok (.sipush 9999, 3) ∧ decode prog_1_method_22_code 14 = .ok (.if_icmp .le 11, 3) ∧ decode prog_1_method_22_code 17 = .ok (.new 147, 3) ∧ decode prog_1_method_22_code 20 = .ok (.dup, 1) ∧ decode prog_1_method_22_code 21 = .ok (.invokespecial 149, 3) := by decide +kernel
theorem e1_R_extend : decode prog_1_method_22_code 24 = .ok (.athrow, 1) ∧ decode prog_1_method_22_code 25 = .ok (.iload_n 3, 1) ∧ decode prog_1_method_22_code 26 = .ok (.ifCond .eq 14, 3) ∧ decode prog_1_method_22_code 29 = .ok (.aload_n 0, 1) ∧ decode prog_1_method_22_code 30 = .ok (.getfield 16, 3) ∧ decode prog_1_method_22_code 33 = .ok (.iload_n 1, 1) ∧ decode prog_1_method_22_code 34 = .ok (.invokevirtual 202, 3) ∧ decode prog_1_method_22_code 37 = .ok (.goto 11, 3) ∧ decode prog_1_method_22_code 40 = .ok (.aload_n 0, 1) ∧ decode prog_1_method_22_code 41 = .ok (.getfield 16, 3) ∧ decode prog_1_method_22_code 44 = .ok (.iload_n 1, 1) ∧ decode prog_1_method_22_code 45 = .ok (.invokevirtual 199, 3) := by decide +kernel
theorem e2_R_extend : decode prog_1_method_22_code 48 = .ok (.iload_n 2, 1) ∧ decode prog_1_method_22_code 49 = .ok (.i2l, 1) ∧ decode prog_1_method_22_code 50 = .ok (.invokestatic 212, 3) ∧ decode prog_1_method_22_code 53 = .ok (.l2i, 1) ∧ decode prog_1_method_22_code 54 = .ok (.ireturn, 1) := by decide +kernel
def T_R_extend : TT := [(0, o_ald 0 1), (1, o_ild 1 2), (2, o_alt (o_callV M_R_needRegister 0 2 5) (o_callVB M_R_needRegister 0 2 1 6 5)), (5, o_ild 2 6), (6, o_push (.int (iI (2))) 7), (7, o_icmp_lt 17 10), (10, o_ild 2 11), (11, o_push (.int (iI (9999))) 14), (14, o_icmp_le 25 17), (17, o_throw "java/lang/IllegalArgumentException"), (25, o_ild 3 26), (26, o_if_eq 40 29), (29, o_ald 0 30), (30, o_get 0 2 33), (33, o_ild 1 34), (34, o_callV M_Ml_numberAt 1 2 37), (37, o_goto 48), (40, o_ald 0 41), (41, o_get 0 2 44), (44, o_ild 1 45), (45, o_callV M_Ml_valueAt 1 2 48), (48, o_ild 2 49), (49, o_i2l 50), (50, o_call M_R_floorRest 2 53), (53, o_l2i 54), (54, o_iret)]
theorem k_R_extend : ∀ x ∈ T_R_extend, SO M_R_extend x.1 x.2 := by
  obtain ⟨h0, h1, h2, h5, h6, h7, h10, h11, h14, h17, h20, h21⟩ := e0_R_extend
  obtain ⟨h24, h25, h26, h29, h30, h33, h34, h37, h40, h41, h44, h45⟩ := e1_R_extend
  obtain ⟨h48, h49, h50, h53, h54⟩ := e2_R_extend
  refine ac (s_aldn (M := M_R_extend) (pc := 0) (k := 0) h0) ?_
  refine ac (s_ildn (M := M_R_extend) (pc := 1) (k := 1) h1) ?_
  refine ac (s_alt (M := M_R_extend) (pc := 2) (s_callV (tz_R rfl) h2 q_R_needRegister wd459 wd461 wd3 rfl (T := TX7) (N := 12) rfl) (s_callVB (mc1 := 1) (ms1 := 6) (tz_R rfl) h2 q_R_needRegister wd459 wd461 wd3 rfl (T := TX7) (N := 12) rfl)) ?_
  refine ac (s_ildn (M := M_R_extend) (pc := 5) (k := 2) h5) ?_
  refine ac (s_iconst (M := M_R_extend) (pc := 6) h6 rfl) ?_
  refine ac (s_icmp_lt (M := M_R_extend) (pc := 7) h7 (by decide)) ?_
  refine ac (s_ildn (M := M_R_extend) (pc := 10) (k := 2) h10) ?_
  refine ac (s_sipush (M := M_R_extend) (pc := 11) h11 (by decide)) ?_
  refine ac (s_icmp_le (M := M_R_extend) (pc := 14) h14 (by decide)) ?_
  refine ac (s_throw (M := M_R_extend) (pc := 17) (tz_R rfl) h17 h20 h21 h24 (by decide +kernel) thr_IllegalArgumentException) ?_
  refine ac (s_ildn (M := M_R_extend) (pc := 25) (k := 3) h25) ?_
  refine ac (s_if_eq (M := M_R_extend) (pc := 26) h26 (by decide)) ?_
  refine ac (s_aldn (M := M_R_extend) (pc := 29) (k := 0) h29) ?_
  refine ac (s_get (M := M_R_extend) (pc := 30) (T := TX7) (N := 12) h30 rfl in_X7 (by decide) wd287) ?_
  refine ac (s_ildn (M := M_R_extend) (pc := 33) (k := 1) h33) ?_
  refine ac (s_callV (M := M_R_extend) (pc := 34) (tz_R rfl) h34 q_Ml_numberAt wd473 wd335 wd336 rfl (T := TX1) (N := 4) rfl) ?_
  refine ac (s_goto (M := M_R_extend) (pc := 37) h37 (by decide)) ?_
  refine ac (s_aldn (M := M_R_extend) (pc := 40) (k := 0) h40) ?_
  refine ac (s_get (M := M_R_extend) (pc := 41) (T := TX7) (N := 12) h41 rfl in_X7 (by decide) wd287) ?_
  refine ac (s_ildn (M := M_R_extend) (pc := 44) (k := 1) h44) ?_
  refine ac (s_callV (M := M_R_extend) (pc := 45) (tz_R rfl) h45 q_Ml_valueAt wd491 wd492 wd493 rfl (T := TX1) (N := 4) rfl) ?_
  refine ac (s_ildn (M := M_R_extend) (pc := 48) (k := 2) h48) ?_
  refine ac (s_i2l (M := M_R_extend) (pc := 49) h49) ?_
  refine ac (s_callS (M := M_R_extend) (pc := 50) (tz_R rfl) h50 q_R_floorRest wd275 wd276) ?_
  refine ac (s_l2i (M := M_R_extend) (pc := 53) h53) ?_
  refine ac (s_iret (M := M_R_extend) (pc := 54) h54 rfl) ?_
  exact ac_nil
theorem e0_R_gap : decode prog_1_method_23_code 0 = .ok (.lconst 0, 1) ∧ decode prog_1_method_23_code 1 = .ok (.lstore_n 1, 1) ∧ decode prog_1_method_23_code 2 = .ok (.iconst 0, 1) ∧ decode prog_1_method_23_code 3 = .ok (.istore_n 3, 1) ∧ decode prog_1_method_23_code 4 = .ok (.iload_n 3, 1) ∧ decode prog_1_method_23_code 5 = .ok (.bipush 8, 2) ∧ decode prog_1_method_23_code 7 = .ok (.if_icmp .ge 49, 3) ∧ decode prog_1_method_23_code 10 = .ok (.aload_n 0, 1) ∧ decode prog_1_method_23_code 11 = .ok (.getfield 16, 3) ∧ decode prog_1_method_23_code 14 = .ok (.iload_n 3, 1) ∧ decode prog_1_method_23_code 15 = .ok (.invokevirtual 192, 3) ∧ decode prog_1_method_23_code 18 = .ok (.aload_n 0, 1) := by decide +kernel
theorem e1_R_gap : decode prog_1_method_23_code 19 = .ok (.getfield 16, 3) ∧ decode prog_1_method_23_code 22 = .ok (.getfield 61, 3) ∧ decode prog_1_method_23_code 25 = .ok (.getfield 157, 3) ∧ decode prog_1_method_23_code 28 = .ok (.invokestatic 212, 3) ∧ decode prog_1_method_23_code 31 = .ok (.lstore 4, 2) ∧ decode prog_1_method_23_code 33 = .ok (.lload_n 1, 1) ∧ decode prog_1_method_23_code 34 = .ok (.aload_n 0, 1) ∧ decode prog_1_method_23_code 35 = .ok (.getfield 16, 3) ∧ decode prog_1_method_23_code 38 = .ok (.iload_n 3, 1) ∧ decode prog_1_method_23_code 39 = .ok (.invokevirtual 215, 3) ∧ decode prog_1_method_23_code 42 = .ok (.lload 4, 2) ∧ decode prog_1_method_23_code 44 = .ok (.lsub, 1) := by decide +kernel
theorem e2_R_gap : decode prog_1_method_23_code 45 = .ok (.invokestatic 218, 3) ∧ decode prog_1_method_23_code 48 = .ok (.ladd, 1) ∧ decode prog_1_method_23_code 49 = .ok (.lstore_n 1, 1) ∧ decode prog_1_method_23_code 50 = .ok (.iinc 3 1, 3) ∧ decode prog_1_method_23_code 53 = .ok (.goto (-49), 3) ∧ decode prog_1_method_23_code 56 = .ok (.lload_n 1, 1) ∧ decode prog_1_method_23_code 57 = .ok (.lreturn, 1) := by decide +kernel
def T_R_gap : TT := [(0, o_push (.long (lI 0)) 1), (1, o_lst 1 2), (2, o_push (.int (iI (0))) 3), (3, o_ist 3 4), (4, o_ild 3 5), (5, o_push (.int (iI (8))) 7), (7, o_icmp_ge 56 10), (10, o_ald 0 11), (11, o_get 0 2 14), (14, o_ild 3 15), (15, o_callV M_Ml_sumOfParts 1 2 18), (18, o_ald 0 19), (19, o_get 0 2 22), (22, o_get 1 0 25), (25, o_get 2 4 28), (28, o_call M_R_floorRest 2 31), (31, o_lst 4 33), (33, o_lld 1 34), (34, o_ald 0 35), (35, o_get 0 2 38), (38, o_ild 3 39), (39, o_callV M_Ml_valueByDigits 1 2 42), (42, o_lld 4 44), (44, o_lsub 45), (45, o_call M_jMath_abs 1 48), (48, o_ladd 49), (49, o_lst 1 50), (50, o_iinc 3 (iI (1)) 53), (53, o_goto 4), (56, o_lld 1 57), (57, o_lret)]
theorem k_R_gap : ∀ x ∈ T_R_gap, SO M_R_gap x.1 x.2 := by
  obtain ⟨h0, h1, h2, h3, h4, h5, h7, h10, h11, h14, h15, h18⟩ := e0_R_gap
  obtain ⟨h19, h22, h25, h28, h31, h33, h34, h35, h38, h39, h42, h44⟩ := e1_R_gap
  obtain ⟨h45, h48, h49, h50, h53, h56, h57⟩ := e2_R_gap
  refine ac (s_lconst (M := M_R_gap) (pc := 0) h0 (by decide)) ?_
  refine ac (s_lstn (M := M_R_gap) (pc := 1) (k := 1) h1 (by decide)) ?_
  refine ac (s_iconst (M := M_R_gap) (pc := 2) h2 rfl) ?_
  refine ac (s_istn (M := M_R_gap) (pc := 3) (k := 3) h3 (by decide)) ?_
  refine ac (s_ildn (M := M_R_gap) (pc := 4) (k := 3) h4) ?_
  refine ac (s_bipush (M := M_R_gap) (pc := 5) h5 (by decide)) ?_
  refine ac (s_icmp_ge (M := M_R_gap) (pc := 7) h7 (by decide)) ?_
  refine ac (s_aldn (M := M_R_gap) (pc := 10) (k := 0) h10) ?_
  refine ac (s_get (M := M_R_gap) (pc := 11) (T := TX7) (N := 12) h11 rfl in_X7 (by decide) wd287) ?_
  refine ac (s_ildn (M := M_R_gap) (pc := 14) (k := 3) h14) ?_
  refine ac (s_callV (M := M_R_gap) (pc := 15) (tz_R rfl) h15 q_Ml_sumOfParts wd499 wd500 wd501 rfl (T := TX1) (N := 4) rfl) ?_
  refine ac (s_aldn (M := M_R_gap) (pc := 18) (k := 0) h18) ?_
  refine ac (s_get (M := M_R_gap) (pc := 19) (T := TX7) (N := 12) h19 rfl in_X7 (by decide) wd287) ?_
  refine ac (s_get (M := M_R_gap) (pc := 22) (T := TX1) (N := 4) h22 rfl in_X1 (by decide) wd100) ?_
  refine ac (s_get (M := M_R_gap) (pc := 25) (T := TX2) (N := 6) h25 rfl in_X2 (by decide) wd80) ?_
  refine ac (s_callS (M := M_R_gap) (pc := 28) (tz_R rfl) h28 q_R_floorRest wd275 wd276) ?_
  refine ac (s_lst (M := M_R_gap) (pc := 31) h31 (by decide)) ?_
  refine ac (s_lldn (M := M_R_gap) (pc := 33) (k := 1) h33) ?_
  refine ac (s_aldn (M := M_R_gap) (pc := 34) (k := 0) h34) ?_
  refine ac (s_get (M := M_R_gap) (pc := 35) (T := TX7) (N := 12) h35 rfl in_X7 (by decide) wd287) ?_
  refine ac (s_ildn (M := M_R_gap) (pc := 38) (k := 3) h38) ?_
  refine ac (s_callV (M := M_R_gap) (pc := 39) (tz_R rfl) h39 q_Ml_valueByDigits wd512 wd513 wd514 rfl (T := TX1) (N := 4) rfl) ?_
  refine ac (s_lld (M := M_R_gap) (pc := 42) h42) ?_
  refine ac (s_lsub (M := M_R_gap) (pc := 44) h44) ?_
  refine ac (s_callS (M := M_R_gap) (pc := 45) (tz_R rfl) h45 q_jMath_abs wd522 wd523) ?_
  refine ac (s_ladd (M := M_R_gap) (pc := 48) h48) ?_
  refine ac (s_lstn (M := M_R_gap) (pc := 49) (k := 1) h49 (by decide)) ?_
  refine ac (s_iinc (M := M_R_gap) (pc := 50) h50 rfl (by decide)) ?_
  refine ac (s_goto (M := M_R_gap) (pc := 53) h53 (by decide)) ?_
  refine ac (s_lldn (M := M_R_gap) (pc := 56) (k := 1) h56) ?_
  refine ac (s_lret (M := M_R_gap) (pc := 57) h57 rfl) ?_
  exact ac_nil
theorem e0_R_faults : decode prog_1_method_27_code 0 = .ok (.aload_n 0, 1) ∧ decode prog_1_method_27_code 1 = .ok (.iload_n 1, 1) ∧ decode prog_1_method_27_code 2 = .ok (.invokevirtual 178, 3) ∧ decode prog_1_method_27_code 5 = .ok (.aload_n 0, 1) ∧ decode prog_1_method_27_code 6 = .ok (.getfield 16, 3) ∧ decode prog_1_method_27_code 9 = .ok (.iload_n 1, 1) ∧ decode prog_1_method_27_code 10 = .ok (.invokevirtual 247, 3) ∧ decode prog_1_method_27_code 13 = .ok (.ireturn, 1) := by decide +kernel
def T_R_faults : TT := [(0, o_ald 0 1), (1, o_ild 1 2), (2, o_alt (o_callV M_R_needRegister 0 2 5) (o_callVB M_R_needRegister 0 2 1 6 5)), (5, o_ald 0 6), (6, o_get 0 2 9), (9, o_ild 1 10), (10, o_callV M_Ml_faultsAt 1 2 13), (13, o_iret)]
theorem k_R_faults : ∀ x ∈ T_R_faults, SO M_R_faults x.1 x.2 := by
  obtain ⟨h0, h1, h2, h5, h6, h9, h10, h13⟩ := e0_R_faults
  refine ac (s_aldn (M := M_R_faults) (pc := 0) (k := 0) h0) ?_
  refine ac (s_ildn (M := M_R_faults) (pc := 1) (k := 1) h1) ?_
  refine ac (s_alt (M := M_R_faults) (pc := 2) (s_callV (tz_R rfl) h2 q_R_needRegister wd459 wd461 wd3 rfl (T := TX7) (N := 12) rfl) (s_callVB (mc1 := 1) (ms1 := 6) (tz_R rfl) h2 q_R_needRegister wd459 wd461 wd3 rfl (T := TX7) (N := 12) rfl)) ?_
  refine ac (s_aldn (M := M_R_faults) (pc := 5) (k := 0) h5) ?_
  refine ac (s_get (M := M_R_faults) (pc := 6) (T := TX7) (N := 12) h6 rfl in_X7 (by decide) wd287) ?_
  refine ac (s_ildn (M := M_R_faults) (pc := 9) (k := 1) h9) ?_
  refine ac (s_callV (M := M_R_faults) (pc := 10) (tz_R rfl) h10 q_Ml_faultsAt wd529 wd530 wd531 rfl (T := TX1) (N := 4) rfl) ?_
  refine ac (s_iret (M := M_R_faults) (pc := 13) h13 rfl) ?_
  exact ac_nil
theorem e0_R_numberIn : decode prog_1_method_58_code 0 = .ok (.lload_n 2, 1) ∧ decode prog_1_method_58_code 1 = .ok (.lconst 1, 1) ∧ decode prog_1_method_58_code 2 = .ok (.lcmp, 1) ∧ decode prog_1_method_58_code 3 = .ok (.ifCond .ge 5, 3) ∧ decode prog_1_method_58_code 6 = .ok (.lconst 0, 1) ∧ decode prog_1_method_58_code 7 = .ok (.lreturn, 1) ∧ decode prog_1_method_58_code 8 = .ok (.lload_n 0, 1) ∧ decode prog_1_method_58_code 9 = .ok (.lload_n 2, 1) ∧ decode prog_1_method_58_code 10 = .ok (.invokestatic 342, 3) ∧ decode prog_1_method_58_code 13 = .ok (.lstore 4, 2) ∧ decode prog_1_method_58_code 15 = .ok (.lload 4, 2) ∧ decode prog_1_method_58_code 17 = .ok (.lload_n 2, 1) := by decide +kernel
theorem e1_R_numberIn : decode prog_1_method_58_code 18 = .ok (.lconst 1, 1) ∧ decode prog_1_method_58_code 19 = .ok (.lsub, 1) ∧ decode prog_1_method_58_code 20 = .ok (.ldc2_w 348, 3) ∧ decode prog_1_method_58_code 23 = .ok (.ldiv, 1) ∧ decode prog_1_method_58_code 24 = .ok (.lcmp, 1) ∧ decode prog_1_method_58_code 25 = .ok (.ifCond .gt 8, 3) ∧ decode prog_1_method_58_code 28 = .ok (.lload 4, 2) ∧ decode prog_1_method_58_code 30 = .ok (.goto 7, 3) ∧ decode prog_1_method_58_code 33 = .ok (.lload 4, 2) ∧ decode prog_1_method_58_code 35 = .ok (.lload_n 2, 1) ∧ decode prog_1_method_58_code 36 = .ok (.lsub, 1) ∧ decode prog_1_method_58_code 37 = .ok (.lreturn, 1) := by decide +kernel
def T_R_numberIn : TT := [(0, o_lld 2 1), (1, o_push (.long (lI 1)) 2), (2, o_lc_ge 8 6), (6, o_push (.long (lI 0)) 7), (7, o_lret), (8, o_lld 0 9), (9, o_lld 2 10), (10, o_call M_jMath_floorMod 2 13), (13, o_lst 4 15), (15, o_lld 4 17), (17, o_lld 2 18), (18, o_push (.long (lI 1)) 19), (19, o_lsub 20), (20, o_push (.long (lI (2))) 23), (23, o_ldiv 24), (24, o_lc_gt 33 28), (28, o_lld 4 30), (30, o_goto 37), (33, o_lld 4 35), (35, o_lld 2 36), (36, o_lsub 37), (37, o_lret)]
theorem k_R_numberIn : ∀ x ∈ T_R_numberIn, SO M_R_numberIn x.1 x.2 := by
  obtain ⟨h0, h1, h2, h3, h6, h7, h8, h9, h10, h13, h15, h17⟩ := e0_R_numberIn
  obtain ⟨h18, h19, h20, h23, h24, h25, h28, h30, h33, h35, h36, h37⟩ := e1_R_numberIn
  refine ac (s_lldn (M := M_R_numberIn) (pc := 0) (k := 2) h0) ?_
  refine ac (s_lconst (M := M_R_numberIn) (pc := 1) h1 (by decide)) ?_
  refine ac (s_lc_ge (M := M_R_numberIn) (pc := 2) h2 h3 (by decide)) ?_
  refine ac (s_lconst (M := M_R_numberIn) (pc := 6) h6 (by decide)) ?_
  refine ac (s_lret (M := M_R_numberIn) (pc := 7) h7 rfl) ?_
  refine ac (s_lldn (M := M_R_numberIn) (pc := 8) (k := 0) h8) ?_
  refine ac (s_lldn (M := M_R_numberIn) (pc := 9) (k := 2) h9) ?_
  refine ac (s_callS (M := M_R_numberIn) (pc := 10) (tz_R rfl) h10 q_jMath_floorMod wd278 wd279) ?_
  refine ac (s_lst (M := M_R_numberIn) (pc := 13) h13 (by decide)) ?_
  refine ac (s_lld (M := M_R_numberIn) (pc := 15) h15) ?_
  refine ac (s_lldn (M := M_R_numberIn) (pc := 17) (k := 2) h17) ?_
  refine ac (s_lconst (M := M_R_numberIn) (pc := 18) h18 (by decide)) ?_
  refine ac (s_lsub (M := M_R_numberIn) (pc := 19) h19) ?_
  refine ac (s_ldc2 (M := M_R_numberIn) (pc := 20) h20 wd540) ?_
  refine ac (s_ldiv (M := M_R_numberIn) (pc := 23) h23) ?_
  refine ac (s_lc_gt (M := M_R_numberIn) (pc := 24) h24 h25 (by decide)) ?_
  refine ac (s_lld (M := M_R_numberIn) (pc := 28) h28) ?_
  refine ac (s_goto (M := M_R_numberIn) (pc := 30) h30 (by decide)) ?_
  refine ac (s_lld (M := M_R_numberIn) (pc := 33) h33) ?_
  refine ac (s_lldn (M := M_R_numberIn) (pc := 35) (k := 2) h35) ?_
  refine ac (s_lsub (M := M_R_numberIn) (pc := 36) h36) ?_
  refine ac (s_lret (M := M_R_numberIn) (pc := 37) h37 rfl) ?_
  exact ac_nil
theorem e0_R_numberWith : decode prog_1_method_28_code 0 = .ok (.aload_n 0, 1) ∧ decode prog_1_method_28_code 1 = .ok (.iload_n 1, 1) ∧ decode prog_1_method_28_code 2 = .ok (.invokevirtual 178, 3) ∧ decode prog_1_method_28_code 5 = .ok (.aload_n 0, 1) ∧ decode prog_1_method_28_code 6 = .ok (.iload_n 2, 1) ∧ decode prog_1_method_28_code 7 = .ok (.invokevirtual 164, 3) ∧ decode prog_1_method_28_code 10 = .ok (.aload_n 0, 1) ∧ decode prog_1_method_28_code 11 = .ok (.iload_n 2, 1) ∧ decode prog_1_method_28_code 12 = .ok (.iload_n 3, 1) ∧ decode prog_1_method_28_code 13 = .ok (.invokevirtual 250, 3) ∧ decode prog_1_method_28_code 16 = .ok (.aload_n 0, 1) ∧ decode prog_1_method_28_code 17 = .ok (.getfield 16, 3) := by decide +kernel
theorem e1_R_numberWith : decode prog_1_method_28_code 20 = .ok (.iload_n 1, 1) ∧ decode prog_1_method_28_code 21 = .ok (.iload_n 2, 1) ∧ decode prog_1_method_28_code 22 = .ok (.iload_n 3, 1) ∧ decode prog_1_method_28_code 23 = .ok (.invokevirtual 254, 3) ∧ decode prog_1_method_28_code 26 = .ok (.lreturn, 1) := by decide +kernel
def T_R_numberWith : TT := [(0, o_ald 0 1), (1, o_ild 1 2), (2, o_alt (o_callV M_R_needRegister 0 2 5) (o_callVB M_R_needRegister 0 2 1 6 5)), (5, o_ald 0 6), (6, o_ild 2 7), (7, o_alt (o_callV M_R_needModulus 0 2 10) (o_callVB M_R_needModulus 0 2 1 6 10)), (10, o_ald 0 11), (11, o_ild 2 12), (12, o_ild 3 13), (13, o_alt (o_callV M_R_needRest 0 3 16) (o_callVB M_R_needRest 0 3 1 6 16)), (16, o_ald 0 17), (17, o_get 0 2 20), (20, o_ild 1 21), (21, o_ild 2 22), (22, o_ild 3 23), (23, o_callV M_Ml_numberWithRest 1 4 26), (26, o_lret)]
theorem k_R_numberWith : ∀ x ∈ T_R_numberWith, SO M_R_numberWith x.1 x.2 := by
  obtain ⟨h0, h1, h2, h5, h6, h7, h10, h11, h12, h13, h16, h17⟩ := e0_R_numberWith
  obtain ⟨h20, h21, h22, h23, h26⟩ := e1_R_numberWith
  refine ac (s_aldn (M := M_R_numberWith) (pc := 0) (k := 0) h0) ?_
  refine ac (s_ildn (M := M_R_numberWith) (pc := 1) (k := 1) h1) ?_
  refine ac (s_alt (M := M_R_numberWith) (pc := 2) (s_callV (tz_R rfl) h2 q_R_needRegister wd459 wd461 wd3 rfl (T := TX7) (N := 12) rfl) (s_callVB (mc1 := 1) (ms1 := 6) (tz_R rfl) h2 q_R_needRegister wd459 wd461 wd3 rfl (T := TX7) (N := 12) rfl)) ?_
  refine ac (s_aldn (M := M_R_numberWith) (pc := 5) (k := 0) h5) ?_
  refine ac (s_ildn (M := M_R_numberWith) (pc := 6) (k := 2) h6) ?_
  refine ac (s_alt (M := M_R_numberWith) (pc := 7) (s_callV (tz_R rfl) h7 q_R_needModulus wd435 wd437 wd2 rfl (T := TX7) (N := 12) rfl) (s_callVB (mc1 := 1) (ms1 := 6) (tz_R rfl) h7 q_R_needModulus wd435 wd437 wd2 rfl (T := TX7) (N := 12) rfl)) ?_
  refine ac (s_aldn (M := M_R_numberWith) (pc := 10) (k := 0) h10) ?_
  refine ac (s_ildn (M := M_R_numberWith) (pc := 11) (k := 2) h11) ?_
  refine ac (s_ildn (M := M_R_numberWith) (pc := 12) (k := 3) h12) ?_
  refine ac (s_alt (M := M_R_numberWith) (pc := 13) (s_callV (tz_R rfl) h13 q_R_needRest wd545 wd547 wd4 rfl (T := TX7) (N := 12) rfl) (s_callVB (mc1 := 1) (ms1 := 6) (tz_R rfl) h13 q_R_needRest wd545 wd547 wd4 rfl (T := TX7) (N := 12) rfl)) ?_
  refine ac (s_aldn (M := M_R_numberWith) (pc := 16) (k := 0) h16) ?_
  refine ac (s_get (M := M_R_numberWith) (pc := 17) (T := TX7) (N := 12) h17 rfl in_X7 (by decide) wd287) ?_
  refine ac (s_ildn (M := M_R_numberWith) (pc := 20) (k := 1) h20) ?_
  refine ac (s_ildn (M := M_R_numberWith) (pc := 21) (k := 2) h21) ?_
  refine ac (s_ildn (M := M_R_numberWith) (pc := 22) (k := 3) h22) ?_
  refine ac (s_callV (M := M_R_numberWith) (pc := 23) (tz_R rfl) h23 q_Ml_numberWithRest wd549 wd550 wd551 rfl (T := TX1) (N := 4) rfl) ?_
  refine ac (s_lret (M := M_R_numberWith) (pc := 26) h26 rfl) ?_
  exact ac_nil
theorem e0_R_needRest : decode prog_1_method_53_code 0 = .ok (.iload_n 2, 1) ∧ decode prog_1_method_53_code 1 = .ok (.ifCond .lt 18, 3) ∧ decode prog_1_method_53_code 4 = .ok (.iload_n 2, 1) ∧ decode prog_1_method_53_code 5 = .ok (.aload_n 0, 1) ∧ decode prog_1_method_53_code 6 = .ok (.getfield 16, 3) ∧ decode prog_1_method_53_code 9 = .ok (.getfield 61, 3) ∧ decode prog_1_method_53_code 12 = .ok (.iload_n 1, 1) ∧ decode prog_1_method_53_code 13 = .ok (.invokevirtual 167, 3) ∧ decode prog_1_method_53_code 16 = .ok (.if_icmp .lt 11, 3) ∧ decode prog_1_method_53_code 19 = .ok (.new 147, 3) ∧ decode prog_1_method_53_code 22 = .ok (.dup, 1) ∧ decode prog_1_method_53_code 23 = .ok (.invokespecial 149, 3) := by decide +kernel
theorem e1_R_needRest : decode prog_1_method_53_code 26 = .ok (.athrow, 1) ∧ decode prog_1_method_53_code 27 = .ok (.return_, 1) := by decide +kernel
def T_R_needRest : TT := [(0, o_ild 2 1), (1, o_if_lt 19 4), (4, o_ild 2 5), (5, o_ald 0 6), (6, o_get 0 2 9), (9, o_get 1 0 12), (12, o_ild 1 13), (13, o_callV M_Mo_at 2 2 16), (16, o_icmp_lt 27 19), (19, o_throw "java/lang/IllegalArgumentException"), (27, o_vret)]
theorem k_R_needRest : ∀ x ∈ T_R_needRest, SO M_R_needRest x.1 x.2 := by
  obtain ⟨h0, h1, h4, h5, h6, h9, h12, h13, h16, h19, h22, h23⟩ := e0_R_needRest
  obtain ⟨h26, h27⟩ := e1_R_needRest
  refine ac (s_ildn (M := M_R_needRest) (pc := 0) (k := 2) h0) ?_
  refine ac (s_if_lt (M := M_R_needRest) (pc := 1) h1 (by decide)) ?_
  refine ac (s_ildn (M := M_R_needRest) (pc := 4) (k := 2) h4) ?_
  refine ac (s_aldn (M := M_R_needRest) (pc := 5) (k := 0) h5) ?_
  refine ac (s_get (M := M_R_needRest) (pc := 6) (T := TX7) (N := 12) h6 rfl in_X7 (by decide) wd287) ?_
  refine ac (s_get (M := M_R_needRest) (pc := 9) (T := TX1) (N := 4) h9 rfl in_X1 (by decide) wd100) ?_
  refine ac (s_ildn (M := M_R_needRest) (pc := 12) (k := 1) h12) ?_
  refine ac (s_callV (M := M_R_needRest) (pc := 13) (tz_R rfl) h13 q_Mo_at wd454 wd263 wd264 rfl (T := TX2) (N := 6) rfl) ?_
  refine ac (s_icmp_lt (M := M_R_needRest) (pc := 16) h16 (by decide)) ?_
  refine ac (s_throw (M := M_R_needRest) (pc := 19) (tz_R rfl) h19 h22 h23 h26 (by decide +kernel) thr_IllegalArgumentException) ?_
  refine ac (s_vret (M := M_R_needRest) (pc := 27) h27 rfl) ?_
  exact ac_nil
theorem e0_R_set : decode prog_1_method_34_code 0 = .ok (.aload_n 0, 1) ∧ decode prog_1_method_34_code 1 = .ok (.iload_n 1, 1) ∧ decode prog_1_method_34_code 2 = .ok (.invokevirtual 178, 3) ∧ decode prog_1_method_34_code 5 = .ok (.iload_n 2, 1) ∧ decode prog_1_method_34_code 6 = .ok (.ldc_w 269, 3) ∧ decode prog_1_method_34_code 9 = .ok (.if_icmp .lt 10, 3) ∧ decode prog_1_method_34_code 12 = .ok (.iload_n 2, 1) ∧ decode prog_1_method_34_code 13 = .ok (.ldc_w 270, 3) ∧ decode prog_1_method_34_code 16 = .ok (.if_icmp .le 11, 3) ∧ decode prog_1_method_34_code 19 = .ok (.new 147, 3) ∧ decode prog_1_method_34_code 22 = .ok (.dup, 1) ∧ decode prog_1_method_34_code 23 = .ok (.invokespecial 149, 3) := by decide +kernel
theorem e1_R_set : decode prog_1_method_34_code 26 = .ok (.athrow, 1) ∧ decode prog_1_method_34_code 27 = .ok (.aload_n 0, 1) ∧ decode prog_1_method_34_code 28 = .ok (.getfield 29, 3) ∧ decode prog_1_method_34_code 31 = .ok (.aload_n 0, 1) ∧ decode prog_1_method_34_code 32 = .ok (.getfield 16, 3) ∧ decode prog_1_method_34_code 35 = .ok (.invokevirtual 116, 3) ∧ decode prog_1_method_34_code 38 = .ok (.aload_n 0, 1) ∧ decode prog_1_method_34_code 39 = .ok (.getfield 29, 3) ∧ decode prog_1_method_34_code 42 = .ok (.aload_n 0, 1) ∧ decode prog_1_method_34_code 43 = .ok (.getfield 16, 3) ∧ decode prog_1_method_34_code 46 = .ok (.iload_n 1, 1) ∧ decode prog_1_method_34_code 47 = .ok (.iload_n 2, 1) := by decide +kernel
theorem e2_R_set : decode prog_1_method_34_code 48 = .ok (.invokevirtual 271, 3) ∧ decode prog_1_method_34_code 51 = .ok (.invokevirtual 274, 3) ∧ decode prog_1_method_34_code 54 = .ok (.ireturn, 1) := by decide +kernel
def T_R_set : TT := [(0, o_ald 0 1), (1, o_ild 1 2), (2, o_alt (o_callV M_R_needRegister 0 2 5) (o_callVB M_R_needRegister 0 2 1 6 5)), (5, o_ild 2 6), (6, o_push (.int (iI (-1000000000))) 9), (9, o_icmp_lt 19 12), (12, o_ild 2 13), (13, o_push (.int (iI (1000000000))) 16), (16, o_icmp_le 27 19), (19, o_throw "java/lang/IllegalArgumentException"), (27, o_ald 0 28), (28, o_get 0 6 31), (31, o_ald 0 32), (32, o_get 0 2 35), (35, o_callV M_Ch_prepare 3 2 38), (38, o_ald 0 39), (39, o_get 0 6 42), (42, o_ald 0 43), (43, o_get 0 2 46), (46, o_ild 1 47), (47, o_ild 2 48), (48, o_callV M_Ml_actSet 1 3 51), (51, o_callV M_Ch_keepIfDone 3 2 54), (54, o_iret)]
theorem k_R_set : ∀ x ∈ T_R_set, SO M_R_set x.1 x.2 := by
  obtain ⟨h0, h1, h2, h5, h6, h9, h12, h13, h16, h19, h22, h23⟩ := e0_R_set
  obtain ⟨h26, h27, h28, h31, h32, h35, h38, h39, h42, h43, h46, h47⟩ := e1_R_set
  obtain ⟨h48, h51, h54⟩ := e2_R_set
  refine ac (s_aldn (M := M_R_set) (pc := 0) (k := 0) h0) ?_
  refine ac (s_ildn (M := M_R_set) (pc := 1) (k := 1) h1) ?_
  refine ac (s_alt (M := M_R_set) (pc := 2) (s_callV (tz_R rfl) h2 q_R_needRegister wd459 wd461 wd3 rfl (T := TX7) (N := 12) rfl) (s_callVB (mc1 := 1) (ms1 := 6) (tz_R rfl) h2 q_R_needRegister wd459 wd461 wd3 rfl (T := TX7) (N := 12) rfl)) ?_
  refine ac (s_ildn (M := M_R_set) (pc := 5) (k := 2) h5) ?_
  refine ac (s_ldcw (M := M_R_set) (pc := 6) h6 wd557) ?_
  refine ac (s_icmp_lt (M := M_R_set) (pc := 9) h9 (by decide)) ?_
  refine ac (s_ildn (M := M_R_set) (pc := 12) (k := 2) h12) ?_
  refine ac (s_ldcw (M := M_R_set) (pc := 13) h13 wd558) ?_
  refine ac (s_icmp_le (M := M_R_set) (pc := 16) h16 (by decide)) ?_
  refine ac (s_throw (M := M_R_set) (pc := 19) (tz_R rfl) h19 h22 h23 h26 (by decide +kernel) thr_IllegalArgumentException) ?_
  refine ac (s_aldn (M := M_R_set) (pc := 27) (k := 0) h27) ?_
  refine ac (s_get (M := M_R_set) (pc := 28) (T := TX7) (N := 12) h28 rfl in_X7 (by decide) wd291) ?_
  refine ac (s_aldn (M := M_R_set) (pc := 31) (k := 0) h31) ?_
  refine ac (s_get (M := M_R_set) (pc := 32) (T := TX7) (N := 12) h32 rfl in_X7 (by decide) wd287) ?_
  refine ac (s_callV (M := M_R_set) (pc := 35) (tz_R rfl) h35 q_Ch_prepare wd559 wd560 wd561 rfl (T := TX0) (N := 3) rfl) ?_
  refine ac (s_aldn (M := M_R_set) (pc := 38) (k := 0) h38) ?_
  refine ac (s_get (M := M_R_set) (pc := 39) (T := TX7) (N := 12) h39 rfl in_X7 (by decide) wd291) ?_
  refine ac (s_aldn (M := M_R_set) (pc := 42) (k := 0) h42) ?_
  refine ac (s_get (M := M_R_set) (pc := 43) (T := TX7) (N := 12) h43 rfl in_X7 (by decide) wd287) ?_
  refine ac (s_ildn (M := M_R_set) (pc := 46) (k := 1) h46) ?_
  refine ac (s_ildn (M := M_R_set) (pc := 47) (k := 2) h47) ?_
  refine ac (s_callV (M := M_R_set) (pc := 48) (tz_R rfl) h48 q_Ml_actSet wd583 wd584 wd585 rfl (T := TX1) (N := 4) rfl) ?_
  refine ac (s_callV (M := M_R_set) (pc := 51) (tz_R rfl) h51 q_Ch_keepIfDone wd603 wd604 wd605 rfl (T := TX0) (N := 3) rfl) ?_
  refine ac (s_iret (M := M_R_set) (pc := 54) h54 rfl) ?_
  exact ac_nil
theorem e0_R_copyRow_AIAI : decode prog_1_method_60_code 0 = .ok (.iconst 0, 1) ∧ decode prog_1_method_60_code 1 = .ok (.istore_n 2, 1) ∧ decode prog_1_method_60_code 2 = .ok (.iload_n 2, 1) ∧ decode prog_1_method_60_code 3 = .ok (.aload_n 0, 1) ∧ decode prog_1_method_60_code 4 = .ok (.arraylength, 1) ∧ decode prog_1_method_60_code 5 = .ok (.if_icmp .ge 21, 3) ∧ decode prog_1_method_60_code 8 = .ok (.iload_n 2, 1) ∧ decode prog_1_method_60_code 9 = .ok (.aload_n 1, 1) ∧ decode prog_1_method_60_code 10 = .ok (.arraylength, 1) ∧ decode prog_1_method_60_code 11 = .ok (.if_icmp .ge 15, 3) ∧ decode prog_1_method_60_code 14 = .ok (.aload_n 1, 1) ∧ decode prog_1_method_60_code 15 = .ok (.iload_n 2, 1) := by decide +kernel
theorem e1_R_copyRow_AIAI : decode prog_1_method_60_code 16 = .ok (.aload_n 0, 1) ∧ decode prog_1_method_60_code 17 = .ok (.iload_n 2, 1) ∧ decode prog_1_method_60_code 18 = .ok (.iaload, 1) ∧ decode prog_1_method_60_code 19 = .ok (.iastore, 1) ∧ decode prog_1_method_60_code 20 = .ok (.iinc 2 1, 3) ∧ decode prog_1_method_60_code 23 = .ok (.goto (-21), 3) ∧ decode prog_1_method_60_code 26 = .ok (.return_, 1) := by decide +kernel
def T_R_copyRow_AIAI : TT := [(0, o_push (.int (iI (0))) 1), (1, o_ist 2 2), (2, o_ild 2 3), (3, o_ald 0 4), (4, o_alen 5), (5, o_icmp_ge 26 8), (8, o_ild 2 9), (9, o_ald 1 10), (10, o_alen 11), (11, o_icmp_ge 26 14), (14, o_ald 1 15), (15, o_ild 2 16), (16, o_ald 0 17), (17, o_ild 2 18), (18, o_iald 19), (19, o_iast 20), (20, o_iinc 2 (iI (1)) 23), (23, o_goto 2), (26, o_vret)]
theorem k_R_copyRow_AIAI : ∀ x ∈ T_R_copyRow_AIAI, SO M_R_copyRow_AIAI x.1 x.2 := by
  obtain ⟨h0, h1, h2, h3, h4, h5, h8, h9, h10, h11, h14, h15⟩ := e0_R_copyRow_AIAI
  obtain ⟨h16, h17, h18, h19, h20, h23, h26⟩ := e1_R_copyRow_AIAI
  refine ac (s_iconst (M := M_R_copyRow_AIAI) (pc := 0) h0 rfl) ?_
  refine ac (s_istn (M := M_R_copyRow_AIAI) (pc := 1) (k := 2) h1 (by decide)) ?_
  refine ac (s_ildn (M := M_R_copyRow_AIAI) (pc := 2) (k := 2) h2) ?_
  refine ac (s_aldn (M := M_R_copyRow_AIAI) (pc := 3) (k := 0) h3) ?_
  refine ac (s_alen (M := M_R_copyRow_AIAI) (pc := 4) h4) ?_
  refine ac (s_icmp_ge (M := M_R_copyRow_AIAI) (pc := 5) h5 (by decide)) ?_
  refine ac (s_ildn (M := M_R_copyRow_AIAI) (pc := 8) (k := 2) h8) ?_
  refine ac (s_aldn (M := M_R_copyRow_AIAI) (pc := 9) (k := 1) h9) ?_
  refine ac (s_alen (M := M_R_copyRow_AIAI) (pc := 10) h10) ?_
  refine ac (s_icmp_ge (M := M_R_copyRow_AIAI) (pc := 11) h11 (by decide)) ?_
  refine ac (s_aldn (M := M_R_copyRow_AIAI) (pc := 14) (k := 1) h14) ?_
  refine ac (s_ildn (M := M_R_copyRow_AIAI) (pc := 15) (k := 2) h15) ?_
  refine ac (s_aldn (M := M_R_copyRow_AIAI) (pc := 16) (k := 0) h16) ?_
  refine ac (s_ildn (M := M_R_copyRow_AIAI) (pc := 17) (k := 2) h17) ?_
  refine ac (s_iald (M := M_R_copyRow_AIAI) (pc := 18) h18) ?_
  refine ac (s_iast (M := M_R_copyRow_AIAI) (pc := 19) h19) ?_
  refine ac (s_iinc (M := M_R_copyRow_AIAI) (pc := 20) h20 rfl (by decide)) ?_
  refine ac (s_goto (M := M_R_copyRow_AIAI) (pc := 23) h23 (by decide)) ?_
  refine ac (s_vret (M := M_R_copyRow_AIAI) (pc := 26) h26 rfl) ?_
  exact ac_nil
theorem e0_R_copyRow_AJAJ : decode prog_1_method_61_code 0 = .ok (.iconst 0, 1) ∧ decode prog_1_method_61_code 1 = .ok (.istore_n 2, 1) ∧ decode prog_1_method_61_code 2 = .ok (.iload_n 2, 1) ∧ decode prog_1_method_61_code 3 = .ok (.aload_n 0, 1) ∧ decode prog_1_method_61_code 4 = .ok (.arraylength, 1) ∧ decode prog_1_method_61_code 5 = .ok (.if_icmp .ge 21, 3) ∧ decode prog_1_method_61_code 8 = .ok (.iload_n 2, 1) ∧ decode prog_1_method_61_code 9 = .ok (.aload_n 1, 1) ∧ decode prog_1_method_61_code 10 = .ok (.arraylength, 1) ∧ decode prog_1_method_61_code 11 = .ok (.if_icmp .ge 15, 3) ∧ decode prog_1_method_61_code 14 = .ok (.aload_n 1, 1) ∧ decode prog_1_method_61_code 15 = .ok (.iload_n 2, 1) := by decide +kernel
theorem e1_R_copyRow_AJAJ : decode prog_1_method_61_code 16 = .ok (.aload_n 0, 1) ∧ decode prog_1_method_61_code 17 = .ok (.iload_n 2, 1) ∧ decode prog_1_method_61_code 18 = .ok (.laload, 1) ∧ decode prog_1_method_61_code 19 = .ok (.lastore, 1) ∧ decode prog_1_method_61_code 20 = .ok (.iinc 2 1, 3) ∧ decode prog_1_method_61_code 23 = .ok (.goto (-21), 3) ∧ decode prog_1_method_61_code 26 = .ok (.return_, 1) := by decide +kernel
def T_R_copyRow_AJAJ : TT := [(0, o_push (.int (iI (0))) 1), (1, o_ist 2 2), (2, o_ild 2 3), (3, o_ald 0 4), (4, o_alen 5), (5, o_icmp_ge 26 8), (8, o_ild 2 9), (9, o_ald 1 10), (10, o_alen 11), (11, o_icmp_ge 26 14), (14, o_ald 1 15), (15, o_ild 2 16), (16, o_ald 0 17), (17, o_ild 2 18), (18, o_lald 19), (19, o_last 20), (20, o_iinc 2 (iI (1)) 23), (23, o_goto 2), (26, o_vret)]
theorem k_R_copyRow_AJAJ : ∀ x ∈ T_R_copyRow_AJAJ, SO M_R_copyRow_AJAJ x.1 x.2 := by
  obtain ⟨h0, h1, h2, h3, h4, h5, h8, h9, h10, h11, h14, h15⟩ := e0_R_copyRow_AJAJ
  obtain ⟨h16, h17, h18, h19, h20, h23, h26⟩ := e1_R_copyRow_AJAJ
  refine ac (s_iconst (M := M_R_copyRow_AJAJ) (pc := 0) h0 rfl) ?_
  refine ac (s_istn (M := M_R_copyRow_AJAJ) (pc := 1) (k := 2) h1 (by decide)) ?_
  refine ac (s_ildn (M := M_R_copyRow_AJAJ) (pc := 2) (k := 2) h2) ?_
  refine ac (s_aldn (M := M_R_copyRow_AJAJ) (pc := 3) (k := 0) h3) ?_
  refine ac (s_alen (M := M_R_copyRow_AJAJ) (pc := 4) h4) ?_
  refine ac (s_icmp_ge (M := M_R_copyRow_AJAJ) (pc := 5) h5 (by decide)) ?_
  refine ac (s_ildn (M := M_R_copyRow_AJAJ) (pc := 8) (k := 2) h8) ?_
  refine ac (s_aldn (M := M_R_copyRow_AJAJ) (pc := 9) (k := 1) h9) ?_
  refine ac (s_alen (M := M_R_copyRow_AJAJ) (pc := 10) h10) ?_
  refine ac (s_icmp_ge (M := M_R_copyRow_AJAJ) (pc := 11) h11 (by decide)) ?_
  refine ac (s_aldn (M := M_R_copyRow_AJAJ) (pc := 14) (k := 1) h14) ?_
  refine ac (s_ildn (M := M_R_copyRow_AJAJ) (pc := 15) (k := 2) h15) ?_
  refine ac (s_aldn (M := M_R_copyRow_AJAJ) (pc := 16) (k := 0) h16) ?_
  refine ac (s_ildn (M := M_R_copyRow_AJAJ) (pc := 17) (k := 2) h17) ?_
  refine ac (s_lald (M := M_R_copyRow_AJAJ) (pc := 18) h18) ?_
  refine ac (s_last (M := M_R_copyRow_AJAJ) (pc := 19) h19) ?_
  refine ac (s_iinc (M := M_R_copyRow_AJAJ) (pc := 20) h20 rfl (by decide)) ?_
  refine ac (s_goto (M := M_R_copyRow_AJAJ) (pc := 23) h23 (by decide)) ?_
  refine ac (s_vret (M := M_R_copyRow_AJAJ) (pc := 26) h26 rfl) ?_
  exact ac_nil
theorem e0_R_hurt : decode prog_1_method_35_code 0 = .ok (.aload_n 0, 1) ∧ decode prog_1_method_35_code 1 = .ok (.iload_n 1, 1) ∧ decode prog_1_method_35_code 2 = .ok (.invokevirtual 178, 3) ∧ decode prog_1_method_35_code 5 = .ok (.aload_n 0, 1) ∧ decode prog_1_method_35_code 6 = .ok (.iload_n 2, 1) ∧ decode prog_1_method_35_code 7 = .ok (.invokevirtual 164, 3) ∧ decode prog_1_method_35_code 10 = .ok (.aload_n 0, 1) ∧ decode prog_1_method_35_code 11 = .ok (.iload_n 2, 1) ∧ decode prog_1_method_35_code 12 = .ok (.iload_n 3, 1) ∧ decode prog_1_method_35_code 13 = .ok (.invokevirtual 250, 3) ∧ decode prog_1_method_35_code 16 = .ok (.aload_n 0, 1) ∧ decode prog_1_method_35_code 17 = .ok (.getfield 29, 3) := by decide +kernel
theorem e1_R_hurt : decode prog_1_method_35_code 20 = .ok (.aload_n 0, 1) ∧ decode prog_1_method_35_code 21 = .ok (.getfield 16, 3) ∧ decode prog_1_method_35_code 24 = .ok (.invokevirtual 116, 3) ∧ decode prog_1_method_35_code 27 = .ok (.aload_n 0, 1) ∧ decode prog_1_method_35_code 28 = .ok (.getfield 29, 3) ∧ decode prog_1_method_35_code 31 = .ok (.invokevirtual 119, 3) ∧ decode prog_1_method_35_code 34 = .ok (.aload_n 0, 1) ∧ decode prog_1_method_35_code 35 = .ok (.getfield 16, 3) ∧ decode prog_1_method_35_code 38 = .ok (.iload_n 1, 1) ∧ decode prog_1_method_35_code 39 = .ok (.iload_n 2, 1) ∧ decode prog_1_method_35_code 40 = .ok (.invokevirtual 181, 3) ∧ decode prog_1_method_35_code 43 = .ok (.istore 4, 2) := by decide +kernel
theorem e2_R_hurt : decode prog_1_method_35_code 45 = .ok (.aload_n 0, 1) ∧ decode prog_1_method_35_code 46 = .ok (.getfield 16, 3) ∧ decode prog_1_method_35_code 49 = .ok (.iload_n 1, 1) ∧ decode prog_1_method_35_code 50 = .ok (.aload_n 0, 1) ∧ decode prog_1_method_35_code 51 = .ok (.getfield 16, 3) ∧ decode prog_1_method_35_code 54 = .ok (.iload_n 1, 1) ∧ decode prog_1_method_35_code 55 = .ok (.iload_n 2, 1) ∧ decode prog_1_method_35_code 56 = .ok (.iload_n 3, 1) ∧ decode prog_1_method_35_code 57 = .ok (.invokevirtual 254, 3) ∧ decode prog_1_method_35_code 60 = .ok (.invokevirtual 277, 3) ∧ decode prog_1_method_35_code 63 = .ok (.iload 4, 2) ∧ decode prog_1_method_35_code 65 = .ok (.ireturn, 1) := by decide +kernel
def T_R_hurt : TT := [(0, o_ald 0 1), (1, o_ild 1 2), (2, o_alt (o_callV M_R_needRegister 0 2 5) (o_callVB M_R_needRegister 0 2 1 6 5)), (5, o_ald 0 6), (6, o_ild 2 7), (7, o_alt (o_callV M_R_needModulus 0 2 10) (o_callVB M_R_needModulus 0 2 1 6 10)), (10, o_ald 0 11), (11, o_ild 2 12), (12, o_ild 3 13), (13, o_alt (o_callV M_R_needRest 0 3 16) (o_callVB M_R_needRest 0 3 1 6 16)), (16, o_ald 0 17), (17, o_get 0 6 20), (20, o_ald 0 21), (21, o_get 0 2 24), (24, o_callV M_Ch_prepare 3 2 27), (27, o_ald 0 28), (28, o_get 0 6 31), (31, o_callV M_Ch_keep 3 1 34), (34, o_ald 0 35), (35, o_get 0 2 38), (38, o_ild 1 39), (39, o_ild 2 40), (40, o_callV M_Ml_restAt 1 3 43), (43, o_ist 4 45), (45, o_ald 0 46), (46, o_get 0 2 49), (49, o_ild 1 50), (50, o_ald 0 51), (51, o_get 0 2 54), (54, o_ild 1 55), (55, o_ild 2 56), (56, o_ild 3 57), (57, o_callV M_Ml_numberWithRest 1 4 60), (60, o_callV M_Ml_put 1 3 63), (63, o_ild 4 65), (65, o_iret)]
theorem k_R_hurt : ∀ x ∈ T_R_hurt, SO M_R_hurt x.1 x.2 := by
  obtain ⟨h0, h1, h2, h5, h6, h7, h10, h11, h12, h13, h16, h17⟩ := e0_R_hurt
  obtain ⟨h20, h21, h24, h27, h28, h31, h34, h35, h38, h39, h40, h43⟩ := e1_R_hurt
  obtain ⟨h45, h46, h49, h50, h51, h54, h55, h56, h57, h60, h63, h65⟩ := e2_R_hurt
  refine ac (s_aldn (M := M_R_hurt) (pc := 0) (k := 0) h0) ?_
  refine ac (s_ildn (M := M_R_hurt) (pc := 1) (k := 1) h1) ?_
  refine ac (s_alt (M := M_R_hurt) (pc := 2) (s_callV (tz_R rfl) h2 q_R_needRegister wd459 wd461 wd3 rfl (T := TX7) (N := 12) rfl) (s_callVB (mc1 := 1) (ms1 := 6) (tz_R rfl) h2 q_R_needRegister wd459 wd461 wd3 rfl (T := TX7) (N := 12) rfl)) ?_
  refine ac (s_aldn (M := M_R_hurt) (pc := 5) (k := 0) h5) ?_
  refine ac (s_ildn (M := M_R_hurt) (pc := 6) (k := 2) h6) ?_
  refine ac (s_alt (M := M_R_hurt) (pc := 7) (s_callV (tz_R rfl) h7 q_R_needModulus wd435 wd437 wd2 rfl (T := TX7) (N := 12) rfl) (s_callVB (mc1 := 1) (ms1 := 6) (tz_R rfl) h7 q_R_needModulus wd435 wd437 wd2 rfl (T := TX7) (N := 12) rfl)) ?_
  refine ac (s_aldn (M := M_R_hurt) (pc := 10) (k := 0) h10) ?_
  refine ac (s_ildn (M := M_R_hurt) (pc := 11) (k := 2) h11) ?_
  refine ac (s_ildn (M := M_R_hurt) (pc := 12) (k := 3) h12) ?_
  refine ac (s_alt (M := M_R_hurt) (pc := 13) (s_callV (tz_R rfl) h13 q_R_needRest wd545 wd547 wd4 rfl (T := TX7) (N := 12) rfl) (s_callVB (mc1 := 1) (ms1 := 6) (tz_R rfl) h13 q_R_needRest wd545 wd547 wd4 rfl (T := TX7) (N := 12) rfl)) ?_
  refine ac (s_aldn (M := M_R_hurt) (pc := 16) (k := 0) h16) ?_
  refine ac (s_get (M := M_R_hurt) (pc := 17) (T := TX7) (N := 12) h17 rfl in_X7 (by decide) wd291) ?_
  refine ac (s_aldn (M := M_R_hurt) (pc := 20) (k := 0) h20) ?_
  refine ac (s_get (M := M_R_hurt) (pc := 21) (T := TX7) (N := 12) h21 rfl in_X7 (by decide) wd287) ?_
  refine ac (s_callV (M := M_R_hurt) (pc := 24) (tz_R rfl) h24 q_Ch_prepare wd559 wd560 wd561 rfl (T := TX0) (N := 3) rfl) ?_
  refine ac (s_aldn (M := M_R_hurt) (pc := 27) (k := 0) h27) ?_
  refine ac (s_get (M := M_R_hurt) (pc := 28) (T := TX7) (N := 12) h28 rfl in_X7 (by decide) wd291) ?_
  refine ac (s_callV (M := M_R_hurt) (pc := 31) (tz_R rfl) h31 q_Ch_keep wd618 wd608 wd609 rfl (T := TX0) (N := 3) rfl) ?_
  refine ac (s_aldn (M := M_R_hurt) (pc := 34) (k := 0) h34) ?_
  refine ac (s_get (M := M_R_hurt) (pc := 35) (T := TX7) (N := 12) h35 rfl in_X7 (by decide) wd287) ?_
  refine ac (s_ildn (M := M_R_hurt) (pc := 38) (k := 1) h38) ?_
  refine ac (s_ildn (M := M_R_hurt) (pc := 39) (k := 2) h39) ?_
  refine ac (s_callV (M := M_R_hurt) (pc := 40) (tz_R rfl) h40 q_Ml_restAt wd463 wd464 wd465 rfl (T := TX1) (N := 4) rfl) ?_
  refine ac (s_ist (M := M_R_hurt) (pc := 43) h43 (by decide)) ?_
  refine ac (s_aldn (M := M_R_hurt) (pc := 45) (k := 0) h45) ?_
  refine ac (s_get (M := M_R_hurt) (pc := 46) (T := TX7) (N := 12) h46 rfl in_X7 (by decide) wd287) ?_
  refine ac (s_ildn (M := M_R_hurt) (pc := 49) (k := 1) h49) ?_
  refine ac (s_aldn (M := M_R_hurt) (pc := 50) (k := 0) h50) ?_
  refine ac (s_get (M := M_R_hurt) (pc := 51) (T := TX7) (N := 12) h51 rfl in_X7 (by decide) wd287) ?_
  refine ac (s_ildn (M := M_R_hurt) (pc := 54) (k := 1) h54) ?_
  refine ac (s_ildn (M := M_R_hurt) (pc := 55) (k := 2) h55) ?_
  refine ac (s_ildn (M := M_R_hurt) (pc := 56) (k := 3) h56) ?_
  refine ac (s_callV (M := M_R_hurt) (pc := 57) (tz_R rfl) h57 q_Ml_numberWithRest wd549 wd550 wd551 rfl (T := TX1) (N := 4) rfl) ?_
  refine ac (s_callV (M := M_R_hurt) (pc := 60) (tz_R rfl) h60 q_Ml_put wd619 wd592 wd593 rfl (T := TX1) (N := 4) rfl) ?_
  refine ac (s_ild (M := M_R_hurt) (pc := 63) h63) ?_
  refine ac (s_iret (M := M_R_hurt) (pc := 65) h65 rfl) ?_
  exact ac_nil
theorem e0_R_mend : decode prog_1_method_38_code 0 = .ok (.aload_n 0, 1) ∧ decode prog_1_method_38_code 1 = .ok (.iload_n 1, 1) ∧ decode prog_1_method_38_code 2 = .ok (.invokevirtual 178, 3) ∧ decode prog_1_method_38_code 5 = .ok (.aload_n 0, 1) ∧ decode prog_1_method_38_code 6 = .ok (.getfield 29, 3) ∧ decode prog_1_method_38_code 9 = .ok (.aload_n 0, 1) ∧ decode prog_1_method_38_code 10 = .ok (.getfield 16, 3) ∧ decode prog_1_method_38_code 13 = .ok (.invokevirtual 116, 3) ∧ decode prog_1_method_38_code 16 = .ok (.aload_n 0, 1) ∧ decode prog_1_method_38_code 17 = .ok (.getfield 29, 3) ∧ decode prog_1_method_38_code 20 = .ok (.aload_n 0, 1) ∧ decode prog_1_method_38_code 21 = .ok (.getfield 16, 3) := by decide +kernel
theorem e1_R_mend : decode prog_1_method_38_code 24 = .ok (.iload_n 1, 1) ∧ decode prog_1_method_38_code 25 = .ok (.invokevirtual 288, 3) ∧ decode prog_1_method_38_code 28 = .ok (.invokevirtual 274, 3) ∧ decode prog_1_method_38_code 31 = .ok (.ireturn, 1) := by decide +kernel
def T_R_mend : TT := [(0, o_ald 0 1), (1, o_ild 1 2), (2, o_alt (o_callV M_R_needRegister 0 2 5) (o_callVB M_R_needRegister 0 2 1 6 5)), (5, o_ald 0 6), (6, o_get 0 6 9), (9, o_ald 0 10), (10, o_get 0 2 13), (13, o_callV M_Ch_prepare 3 2 16), (16, o_ald 0 17), (17, o_get 0 6 20), (20, o_ald 0 21), (21, o_get 0 2 24), (24, o_ild 1 25), (25, o_callV M_Ml_actMend 1 2 28), (28, o_callV M_Ch_keepIfDone 3 2 31), (31, o_iret)]
theorem k_R_mend : ∀ x ∈ T_R_mend, SO M_R_mend x.1 x.2 := by
  obtain ⟨h0, h1, h2, h5, h6, h9, h10, h13, h16, h17, h20, h21⟩ := e0_R_mend
  obtain ⟨h24, h25, h28, h31⟩ := e1_R_mend
  refine ac (s_aldn (M := M_R_mend) (pc := 0) (k := 0) h0) ?_
  refine ac (s_ildn (M := M_R_mend) (pc := 1) (k := 1) h1) ?_
  refine ac (s_alt (M := M_R_mend) (pc := 2) (s_callV (tz_R rfl) h2 q_R_needRegister wd459 wd461 wd3 rfl (T := TX7) (N := 12) rfl) (s_callVB (mc1 := 1) (ms1 := 6) (tz_R rfl) h2 q_R_needRegister wd459 wd461 wd3 rfl (T := TX7) (N := 12) rfl)) ?_
  refine ac (s_aldn (M := M_R_mend) (pc := 5) (k := 0) h5) ?_
  refine ac (s_get (M := M_R_mend) (pc := 6) (T := TX7) (N := 12) h6 rfl in_X7 (by decide) wd291) ?_
  refine ac (s_aldn (M := M_R_mend) (pc := 9) (k := 0) h9) ?_
  refine ac (s_get (M := M_R_mend) (pc := 10) (T := TX7) (N := 12) h10 rfl in_X7 (by decide) wd287) ?_
  refine ac (s_callV (M := M_R_mend) (pc := 13) (tz_R rfl) h13 q_Ch_prepare wd559 wd560 wd561 rfl (T := TX0) (N := 3) rfl) ?_
  refine ac (s_aldn (M := M_R_mend) (pc := 16) (k := 0) h16) ?_
  refine ac (s_get (M := M_R_mend) (pc := 17) (T := TX7) (N := 12) h17 rfl in_X7 (by decide) wd291) ?_
  refine ac (s_aldn (M := M_R_mend) (pc := 20) (k := 0) h20) ?_
  refine ac (s_get (M := M_R_mend) (pc := 21) (T := TX7) (N := 12) h21 rfl in_X7 (by decide) wd287) ?_
  refine ac (s_ildn (M := M_R_mend) (pc := 24) (k := 1) h24) ?_
  refine ac (s_callV (M := M_R_mend) (pc := 25) (tz_R rfl) h25 q_Ml_actMend wd624 wd625 wd626 rfl (T := TX1) (N := 4) rfl) ?_
  refine ac (s_callV (M := M_R_mend) (pc := 28) (tz_R rfl) h28 q_Ch_keepIfDone wd603 wd604 wd605 rfl (T := TX0) (N := 3) rfl) ?_
  refine ac (s_iret (M := M_R_mend) (pc := 31) h31 rfl) ?_
  exact ac_nil
theorem e0_R_saveState : decode prog_1_method_47_code 0 = .ok (.aload_n 0, 1) ∧ decode prog_1_method_47_code 1 = .ok (.getfield 23, 3) ∧ decode prog_1_method_47_code 4 = .ok (.aload_n 0, 1) ∧ decode prog_1_method_47_code 5 = .ok (.getfield 16, 3) ∧ decode prog_1_method_47_code 8 = .ok (.invokevirtual 98, 3) ∧ decode prog_1_method_47_code 11 = .ok (.aload_n 0, 1) ∧ decode prog_1_method_47_code 12 = .ok (.iconst 1, 1) ∧ decode prog_1_method_47_code 13 = .ok (.putfield 105, 3) ∧ decode prog_1_method_47_code 16 = .ok (.aload_n 0, 1) ∧ decode prog_1_method_47_code 17 = .ok (.getfield 16, 3) ∧ decode prog_1_method_47_code 20 = .ok (.getfield 61, 3) ∧ decode prog_1_method_47_code 23 = .ok (.getfield 109, 3) := by decide +kernel
theorem e1_R_saveState : decode prog_1_method_47_code 26 = .ok (.ireturn, 1) := by decide +kernel
def T_R_saveState : TT := [(0, o_ald 0 1), (1, o_get 0 4 4), (4, o_ald 0 5), (5, o_get 0 2 8), (8, o_callV M_Ml_copyFrom 1 2 11), (11, o_ald 0 12), (12, o_push (.int (iI (1))) 13), (13, o_putz 0 5 16), (16, o_ald 0 17), (17, o_get 0 2 20), (20, o_get 1 0 23), (23, o_get 2 2 26), (26, o_iret)]
theorem k_R_saveState : ∀ x ∈ T_R_saveState, SO M_R_saveState x.1 x.2 := by
  obtain ⟨h0, h1, h4, h5, h8, h11, h12, h13, h16, h17, h20, h23⟩ := e0_R_saveState
  have h26 := e1_R_saveState
  refine ac (s_aldn (M := M_R_saveState) (pc := 0) (k := 0) h0) ?_
  refine ac (s_get (M := M_R_saveState) (pc := 1) (T := TX7) (N := 12) h1 rfl in_X7 (by decide) wd289) ?_
  refine ac (s_aldn (M := M_R_saveState) (pc := 4) (k := 0) h4) ?_
  refine ac (s_get (M := M_R_saveState) (pc := 5) (T := TX7) (N := 12) h5 rfl in_X7 (by decide) wd287) ?_
  refine ac (s_callV (M := M_R_saveState) (pc := 8) (tz_R rfl) h8 q_Ml_copyFrom wd633 wd568 wd569 rfl (T := TX1) (N := 4) rfl) ?_
  refine ac (s_aldn (M := M_R_saveState) (pc := 11) (k := 0) h11) ?_
  refine ac (s_iconst (M := M_R_saveState) (pc := 12) h12 rfl) ?_
  refine ac (s_putz (M := M_R_saveState) (pc := 13) (T := TX7) (N := 12) (ty0 := tyX7) h13 ⟨rfl, in_X7, by decide, wd290, tyX7_ok, nmX7, (Or.inl rfl)⟩ rfl) ?_
  refine ac (s_aldn (M := M_R_saveState) (pc := 16) (k := 0) h16) ?_
  refine ac (s_get (M := M_R_saveState) (pc := 17) (T := TX7) (N := 12) h17 rfl in_X7 (by decide) wd287) ?_
  refine ac (s_get (M := M_R_saveState) (pc := 20) (T := TX1) (N := 4) h20 rfl in_X1 (by decide) wd100) ?_
  refine ac (s_get (M := M_R_saveState) (pc := 23) (T := TX2) (N := 6) h23 rfl in_X2 (by decide) wd74) ?_
  refine ac (s_iret (M := M_R_saveState) (pc := 26) h26 rfl) ?_
  exact ac_nil
theorem e0_R_restoreState : decode prog_1_method_48_code 0 = .ok (.aload_n 0, 1) ∧ decode prog_1_method_48_code 1 = .ok (.getfield 105, 3) ∧ decode prog_1_method_48_code 4 = .ok (.ifCond .ne 11, 3) ∧ decode prog_1_method_48_code 7 = .ok (.new 300, 3) ∧ decode prog_1_method_48_code 10 = .ok (.dup, 1) ∧ decode prog_1_method_48_code 11 = .ok (.invokespecial 302, 3) ∧ decode prog_1_method_48_code 14 = .ok (.athrow, 1) ∧ decode prog_1_method_48_code 15 = .ok (.aload_n 0, 1) ∧ decode prog_1_method_48_code 16 = .ok (.getfield 16, 3) ∧ decode prog_1_method_48_code 19 = .ok (.aload_n 0, 1) ∧ decode prog_1_method_48_code 20 = .ok (.getfield 23, 3) ∧ decode prog_1_method_48_code 23 = .ok (.invokevirtual 98, 3) := by decide +kernel
theorem e1_R_restoreState : decode prog_1_method_48_code 26 = .ok (.aload_n 0, 1) ∧ decode prog_1_method_48_code 27 = .ok (.getfield 29, 3) ∧ decode prog_1_method_48_code 30 = .ok (.invokevirtual 102, 3) ∧ decode prog_1_method_48_code 33 = .ok (.aload_n 0, 1) ∧ decode prog_1_method_48_code 34 = .ok (.getfield 16, 3) ∧ decode prog_1_method_48_code 37 = .ok (.getfield 61, 3) ∧ decode prog_1_method_48_code 40 = .ok (.getfield 109, 3) ∧ decode prog_1_method_48_code 43 = .ok (.ireturn, 1) := by decide +kernel
def T_R_restoreState : TT := [(0, o_ald 0 1), (1, o_get 0 5 4), (4, o_if_ne 15 7), (7, o_throw "java/util/NoSuchElementException"), (15, o_ald 0 16), (16, o_get 0 2 19), (19, o_ald 0 20), (20, o_get 0 4 23), (23, o_callV M_Ml_copyFrom 1 2 26), (26, o_ald 0 27), (27, o_get 0 6 30), (30, o_callV M_Ch_clear 3 1 33), (33, o_ald 0 34), (34, o_get 0 2 37), (37, o_get 1 0 40), (40, o_get 2 2 43), (43, o_iret)]
theorem k_R_restoreState : ∀ x ∈ T_R_restoreState, SO M_R_restoreState x.1 x.2 := by
  obtain ⟨h0, h1, h4, h7, h10, h11, h14, h15, h16, h19, h20, h23⟩ := e0_R_restoreState
  obtain ⟨h26, h27, h30, h33, h34, h37, h40, h43⟩ := e1_R_restoreState
  refine ac (s_aldn (M := M_R_restoreState) (pc := 0) (k := 0) h0) ?_
  refine ac (s_get (M := M_R_restoreState) (pc := 1) (T := TX7) (N := 12) h1 rfl in_X7 (by decide) wd290) ?_
  refine ac (s_if_ne (M := M_R_restoreState) (pc := 4) h4 (by decide)) ?_
  refine ac (s_throw (M := M_R_restoreState) (pc := 7) (tz_R rfl) h7 h10 h11 h14 (by decide +kernel) thr_NoSuchElementException) ?_
  refine ac (s_aldn (M := M_R_restoreState) (pc := 15) (k := 0) h15) ?_
  refine ac (s_get (M := M_R_restoreState) (pc := 16) (T := TX7) (N := 12) h16 rfl in_X7 (by decide) wd287) ?_
  refine ac (s_aldn (M := M_R_restoreState) (pc := 19) (k := 0) h19) ?_
  refine ac (s_get (M := M_R_restoreState) (pc := 20) (T := TX7) (N := 12) h20 rfl in_X7 (by decide) wd289) ?_
  refine ac (s_callV (M := M_R_restoreState) (pc := 23) (tz_R rfl) h23 q_Ml_copyFrom wd633 wd568 wd569 rfl (T := TX1) (N := 4) rfl) ?_
  refine ac (s_aldn (M := M_R_restoreState) (pc := 26) (k := 0) h26) ?_
  refine ac (s_get (M := M_R_restoreState) (pc := 27) (T := TX7) (N := 12) h27 rfl in_X7 (by decide) wd291) ?_
  refine ac (s_callV (M := M_R_restoreState) (pc := 30) (tz_R rfl) h30 q_Ch_clear wd653 wd654 wd655 rfl (T := TX0) (N := 3) rfl) ?_
  refine ac (s_aldn (M := M_R_restoreState) (pc := 33) (k := 0) h33) ?_
  refine ac (s_get (M := M_R_restoreState) (pc := 34) (T := TX7) (N := 12) h34 rfl in_X7 (by decide) wd287) ?_
  refine ac (s_get (M := M_R_restoreState) (pc := 37) (T := TX1) (N := 4) h37 rfl in_X1 (by decide) wd100) ?_
  refine ac (s_get (M := M_R_restoreState) (pc := 40) (T := TX2) (N := 6) h40 rfl in_X2 (by decide) wd74) ?_
  refine ac (s_iret (M := M_R_restoreState) (pc := 43) h43 rfl) ?_
  exact ac_nil
theorem e0_R_appendInput : decode prog_1_method_2_code 0 = .ok (.aload_n 0, 1) ∧ decode prog_1_method_2_code 1 = .ok (.getfield 74, 3) ∧ decode prog_1_method_2_code 4 = .ok (.bipush 20, 2) ∧ decode prog_1_method_2_code 6 = .ok (.iadd, 1) ∧ decode prog_1_method_2_code 7 = .ok (.sipush 500, 3) ∧ decode prog_1_method_2_code 10 = .ok (.if_icmp .le 5, 3) ∧ decode prog_1_method_2_code 13 = .ok (.iconst (-1), 1) ∧ decode prog_1_method_2_code 14 = .ok (.ireturn, 1) ∧ decode prog_1_method_2_code 15 = .ok (.aload_n 0, 1) ∧ decode prog_1_method_2_code 16 = .ok (.iload_n 1, 1) ∧ decode prog_1_method_2_code 17 = .ok (.invokevirtual 77, 3) ∧ decode prog_1_method_2_code 20 = .ok (.aload_n 0, 1) := by decide +kernel
theorem e1_R_appendInput : decode prog_1_method_2_code 21 = .ok (.iload_n 2, 1) ∧ decode prog_1_method_2_code 22 = .ok (.invokevirtual 77, 3) ∧ decode prog_1_method_2_code 25 = .ok (.aload_n 0, 1) ∧ decode prog_1_method_2_code 26 = .ok (.iload_n 3, 1) ∧ decode prog_1_method_2_code 27 = .ok (.invokevirtual 77, 3) ∧ decode prog_1_method_2_code 30 = .ok (.aload_n 0, 1) ∧ decode prog_1_method_2_code 31 = .ok (.iload 4, 2) ∧ decode prog_1_method_2_code 33 = .ok (.invokevirtual 77, 3) ∧ decode prog_1_method_2_code 36 = .ok (.aload_n 0, 1) ∧ decode prog_1_method_2_code 37 = .ok (.iload 5, 2) ∧ decode prog_1_method_2_code 39 = .ok (.invokevirtual 77, 3) ∧ decode prog_1_method_2_code 42 = .ok (.aload_n 0, 1) := by decide +kernel
theorem e2_R_appendInput : decode prog_1_method_2_code 43 = .ok (.getfield 74, 3) ∧ decode prog_1_method_2_code 46 = .ok (.ireturn, 1) := by decide +kernel
def T_R_appendInput : TT := [(0, o_ald 0 1), (1, o_get 0 1 4), (4, o_push (.int (iI (20))) 6), (6, o_iadd 7), (7, o_push (.int (iI (500))) 10), (10, o_icmp_le 15 13), (13, o_push (.int (iI (-1))) 14), (14, o_iret), (15, o_ald 0 16), (16, o_ild 1 17), (17, o_callV M_R_appendFour 0 2 20), (20, o_ald 0 21), (21, o_ild 2 22), (22, o_callV M_R_appendFour 0 2 25), (25, o_ald 0 26), (26, o_ild 3 27), (27, o_callV M_R_appendFour 0 2 30), (30, o_ald 0 31), (31, o_ild 4 33), (33, o_callV M_R_appendFour 0 2 36), (36, o_ald 0 37), (37, o_ild 5 39), (39, o_callV M_R_appendFour 0 2 42), (42, o_ald 0 43), (43, o_get 0 1 46), (46, o_iret)]
theorem k_R_appendInput : ∀ x ∈ T_R_appendInput, SO M_R_appendInput x.1 x.2 := by
  obtain ⟨h0, h1, h4, h6, h7, h10, h13, h14, h15, h16, h17, h20⟩ := e0_R_appendInput
  obtain ⟨h21, h22, h25, h26, h27, h30, h31, h33, h36, h37, h39, h42⟩ := e1_R_appendInput
  obtain ⟨h43, h46⟩ := e2_R_appendInput
  refine ac (s_aldn (M := M_R_appendInput) (pc := 0) (k := 0) h0) ?_
  refine ac (s_get (M := M_R_appendInput) (pc := 1) (T := TX7) (N := 12) h1 rfl in_X7 (by decide) wd286) ?_
  refine ac (s_bipush (M := M_R_appendInput) (pc := 4) h4 (by decide)) ?_
  refine ac (s_iadd (M := M_R_appendInput) (pc := 6) h6) ?_
  refine ac (s_sipush (M := M_R_appendInput) (pc := 7) h7 (by decide)) ?_
  refine ac (s_icmp_le (M := M_R_appendInput) (pc := 10) h10 (by decide)) ?_
  refine ac (s_iconst (M := M_R_appendInput) (pc := 13) h13 rfl) ?_
  refine ac (s_iret (M := M_R_appendInput) (pc := 14) h14 rfl) ?_
  refine ac (s_aldn (M := M_R_appendInput) (pc := 15) (k := 0) h15) ?_
  refine ac (s_ildn (M := M_R_appendInput) (pc := 16) (k := 1) h16) ?_
  refine ac (s_callV (M := M_R_appendInput) (pc := 17) (tz_R rfl) h17 q_R_appendFour wd722 wd724 wd6 rfl (T := TX7) (N := 12) rfl) ?_
  refine ac (s_aldn (M := M_R_appendInput) (pc := 20) (k := 0) h20) ?_
  refine ac (s_ildn (M := M_R_appendInput) (pc := 21) (k := 2) h21) ?_
  refine ac (s_callV (M := M_R_appendInput) (pc := 22) (tz_R rfl) h22 q_R_appendFour wd722 wd724 wd6 rfl (T := TX7) (N := 12) rfl) ?_
  refine ac (s_aldn (M := M_R_appendInput) (pc := 25) (k := 0) h25) ?_
  refine ac (s_ildn (M := M_R_appendInput) (pc := 26) (k := 3) h26) ?_
  refine ac (s_callV (M := M_R_appendInput) (pc := 27) (tz_R rfl) h27 q_R_appendFour wd722 wd724 wd6 rfl (T := TX7) (N := 12) rfl) ?_
  refine ac (s_aldn (M := M_R_appendInput) (pc := 30) (k := 0) h30) ?_
  refine ac (s_ild (M := M_R_appendInput) (pc := 31) h31) ?_
  refine ac (s_callV (M := M_R_appendInput) (pc := 33) (tz_R rfl) h33 q_R_appendFour wd722 wd724 wd6 rfl (T := TX7) (N := 12) rfl) ?_
  refine ac (s_aldn (M := M_R_appendInput) (pc := 36) (k := 0) h36) ?_
  refine ac (s_ild (M := M_R_appendInput) (pc := 37) h37) ?_
  refine ac (s_callV (M := M_R_appendInput) (pc := 39) (tz_R rfl) h39 q_R_appendFour wd722 wd724 wd6 rfl (T := TX7) (N := 12) rfl) ?_
  refine ac (s_aldn (M := M_R_appendInput) (pc := 42) (k := 0) h42) ?_
  refine ac (s_get (M := M_R_appendInput) (pc := 43) (T := TX7) (N := 12) h43 rfl in_X7 (by decide) wd286) ?_
  refine ac (s_iret (M := M_R_appendInput) (pc := 46) h46 rfl) ?_
  exact ac_nil
theorem e0_R_appendFour : decode prog_1_method_49_code 0 = .ok (.bipush 24, 2) ∧ decode prog_1_method_49_code 2 = .ok (.istore_n 2, 1) ∧ decode prog_1_method_49_code 3 = .ok (.iload_n 2, 1) ∧ decode prog_1_method_49_code 4 = .ok (.ifCond .lt 51, 3) ∧ decode prog_1_method_49_code 7 = .ok (.aload_n 0, 1) ∧ decode prog_1_method_49_code 8 = .ok (.getfield 74, 3) ∧ decode prog_1_method_49_code 11 = .ok (.ifCond .lt 38, 3) ∧ decode prog_1_method_49_code 14 = .ok (.aload_n 0, 1) ∧ decode prog_1_method_49_code 15 = .ok (.getfield 74, 3) ∧ decode prog_1_method_49_code 18 = .ok (.aload_n 0, 1) ∧ decode prog_1_method_49_code 19 = .ok (.getfield 9, 3) ∧ decode prog_1_method_49_code 22 = .ok (.arraylength, 1) := by decide +kernel
theorem e1_R_appendFour : decode prog_1_method_49_code 23 = .ok (.if_icmp .ge 26, 3) ∧ decode prog_1_method_49_code 26 = .ok (.aload_n 0, 1) ∧ decode prog_1_method_49_code 27 = .ok (.getfield 9, 3) ∧ decode prog_1_method_49_code 30 = .ok (.aload_n 0, 1) ∧ decode prog_1_method_49_code 31 = .ok (.getfield 74, 3) ∧ decode prog_1_method_49_code 34 = .ok (.iload_n 1, 1) ∧ decode prog_1_method_49_code 35 = .ok (.iload_n 2, 1) ∧ decode prog_1_method_49_code 36 = .ok (.ishr, 1) ∧ decode prog_1_method_49_code 37 = .ok (.i2b, 1) ∧ decode prog_1_method_49_code 38 = .ok (.bastore, 1) ∧ decode prog_1_method_49_code 39 = .ok (.aload_n 0, 1) ∧ decode prog_1_method_49_code 40 = .ok (.dup, 1) := by decide +kernel
theorem e2_R_appendFour : decode prog_1_method_49_code 41 = .ok (.getfield 74, 3) ∧ decode prog_1_method_49_code 44 = .ok (.iconst 1, 1) ∧ decode prog_1_method_49_code 45 = .ok (.iadd, 1) ∧ decode prog_1_method_49_code 46 = .ok (.putfield 74, 3) ∧ decode prog_1_method_49_code 49 = .ok (.iinc 2 (-8), 3) ∧ decode prog_1_method_49_code 52 = .ok (.goto (-49), 3) ∧ decode prog_1_method_49_code 55 = .ok (.return_, 1) := by decide +kernel
def T_R_appendFour : TT := [(0, o_push (.int (iI (24))) 2), (2, o_ist 2 3), (3, o_ild 2 4), (4, o_if_lt 55 7), (7, o_ald 0 8), (8, o_get 0 1 11), (11, o_if_lt 49 14), (14, o_ald 0 15), (15, o_get 0 1 18), (18, o_ald 0 19), (19, o_get 0 0 22), (22, o_alen 23), (23, o_icmp_ge 49 26), (26, o_ald 0 27), (27, o_get 0 0 30), (30, o_ald 0 31), (31, o_get 0 1 34), (34, o_ild 1 35), (35, o_ild 2 36), (36, o_ishr 37), (37, o_i2b 38), (38, o_bast 39), (39, o_ald 0 40), (40, o_dup 41), (41, o_get 0 1 44), (44, o_push (.int (iI (1))) 45), (45, o_iadd 46), (46, o_puti 0 1 49), (49, o_iinc 2 (iI (-8)) 52), (52, o_goto 3), (55, o_vret)]
theorem k_R_appendFour : ∀ x ∈ T_R_appendFour, SO M_R_appendFour x.1 x.2 := by
  obtain ⟨h0, h2, h3, h4, h7, h8, h11, h14, h15, h18, h19, h22⟩ := e0_R_appendFour
  obtain ⟨h23, h26, h27, h30, h31, h34, h35, h36, h37, h38, h39, h40⟩ := e1_R_appendFour
  obtain ⟨h41, h44, h45, h46, h49, h52, h55⟩ := e2_R_appendFour
  refine ac (s_bipush (M := M_R_appendFour) (pc := 0) h0 (by decide)) ?_
  refine ac (s_istn (M := M_R_appendFour) (pc := 2) (k := 2) h2 (by decide)) ?_
  refine ac (s_ildn (M := M_R_appendFour) (pc := 3) (k := 2) h3) ?_
  refine ac (s_if_lt (M := M_R_appendFour) (pc := 4) h4 (by decide)) ?_
  refine ac (s_aldn (M := M_R_appendFour) (pc := 7) (k := 0) h7) ?_
  refine ac (s_get (M := M_R_appendFour) (pc := 8) (T := TX7) (N := 12) h8 rfl in_X7 (by decide) wd286) ?_
  refine ac (s_if_lt (M := M_R_appendFour) (pc := 11) h11 (by decide)) ?_
  refine ac (s_aldn (M := M_R_appendFour) (pc := 14) (k := 0) h14) ?_
  refine ac (s_get (M := M_R_appendFour) (pc := 15) (T := TX7) (N := 12) h15 rfl in_X7 (by decide) wd286) ?_
  refine ac (s_aldn (M := M_R_appendFour) (pc := 18) (k := 0) h18) ?_
  refine ac (s_get (M := M_R_appendFour) (pc := 19) (T := TX7) (N := 12) h19 rfl in_X7 (by decide) wd285) ?_
  refine ac (s_alen (M := M_R_appendFour) (pc := 22) h22) ?_
  refine ac (s_icmp_ge (M := M_R_appendFour) (pc := 23) h23 (by decide)) ?_
  refine ac (s_aldn (M := M_R_appendFour) (pc := 26) (k := 0) h26) ?_
  refine ac (s_get (M := M_R_appendFour) (pc := 27) (T := TX7) (N := 12) h27 rfl in_X7 (by decide) wd285) ?_
  refine ac (s_aldn (M := M_R_appendFour) (pc := 30) (k := 0) h30) ?_
  refine ac (s_get (M := M_R_appendFour) (pc := 31) (T := TX7) (N := 12) h31 rfl in_X7 (by decide) wd286) ?_
  refine ac (s_ildn (M := M_R_appendFour) (pc := 34) (k := 1) h34) ?_
  refine ac (s_ildn (M := M_R_appendFour) (pc := 35) (k := 2) h35) ?_
  refine ac (s_ishr (M := M_R_appendFour) (pc := 36) h36) ?_
  refine ac (s_i2b (M := M_R_appendFour) (pc := 37) h37) ?_
  refine ac (s_bast (M := M_R_appendFour) (pc := 38) h38) ?_
  refine ac (s_aldn (M := M_R_appendFour) (pc := 39) (k := 0) h39) ?_
  refine ac (s_dup (M := M_R_appendFour) (pc := 40) h40) ?_
  refine ac (s_get (M := M_R_appendFour) (pc := 41) (T := TX7) (N := 12) h41 rfl in_X7 (by decide) wd286) ?_
  refine ac (s_iconst (M := M_R_appendFour) (pc := 44) h44 rfl) ?_
  refine ac (s_iadd (M := M_R_appendFour) (pc := 45) h45) ?_
  refine ac (s_puti (M := M_R_appendFour) (pc := 46) (T := TX7) (N := 12) (ty0 := tyX7) h46 ⟨rfl, in_X7, by decide, wd286, tyX7_ok, nmX7, (Or.inl rfl)⟩ rfl) ?_
  refine ac (s_iinc (M := M_R_appendFour) (pc := 49) h49 rfl (by decide)) ?_
  refine ac (s_goto (M := M_R_appendFour) (pc := 52) h52 (by decide)) ?_
  refine ac (s_vret (M := M_R_appendFour) (pc := 55) h55 rfl) ?_
  exact ac_nil
theorem e0_R_truncateInput : decode prog_1_method_3_code 0 = .ok (.iload_n 1, 1) ∧ decode prog_1_method_3_code 1 = .ok (.ifCond .lt 11, 3) ∧ decode prog_1_method_3_code 4 = .ok (.iload_n 1, 1) ∧ decode prog_1_method_3_code 5 = .ok (.aload_n 0, 1) ∧ decode prog_1_method_3_code 6 = .ok (.getfield 74, 3) ∧ decode prog_1_method_3_code 9 = .ok (.if_icmp .le 5, 3) ∧ decode prog_1_method_3_code 12 = .ok (.iconst 0, 1) ∧ decode prog_1_method_3_code 13 = .ok (.ireturn, 1) ∧ decode prog_1_method_3_code 14 = .ok (.aload_n 0, 1) ∧ decode prog_1_method_3_code 15 = .ok (.iload_n 1, 1) ∧ decode prog_1_method_3_code 16 = .ok (.putfield 74, 3) ∧ decode prog_1_method_3_code 19 = .ok (.iconst 1, 1) := by decide +kernel
theorem e1_R_truncateInput : decode prog_1_method_3_code 20 = .ok (.ireturn, 1) := by decide +kernel
def T_R_truncateInput : TT := [(0, o_ild 1 1), (1, o_if_lt 12 4), (4, o_ild 1 5), (5, o_ald 0 6), (6, o_get 0 1 9), (9, o_icmp_le 14 12), (12, o_push (.int (iI (0))) 13), (13, o_zret), (14, o_ald 0 15), (15, o_ild 1 16), (16, o_puti 0 1 19), (19, o_push (.int (iI (1))) 20), (20, o_zret)]
theorem k_R_truncateInput : ∀ x ∈ T_R_truncateInput, SO M_R_truncateInput x.1 x.2 := by
  obtain ⟨h0, h1, h4, h5, h6, h9, h12, h13, h14, h15, h16, h19⟩ := e0_R_truncateInput
  have h20 := e1_R_truncateInput
  refine ac (s_ildn (M := M_R_truncateInput) (pc := 0) (k := 1) h0) ?_
  refine ac (s_if_lt (M := M_R_truncateInput) (pc := 1) h1 (by decide)) ?_
  refine ac (s_ildn (M := M_R_truncateInput) (pc := 4) (k := 1) h4) ?_
  refine ac (s_aldn (M := M_R_truncateInput) (pc := 5) (k := 0) h5) ?_
  refine ac (s_get (M := M_R_truncateInput) (pc := 6) (T := TX7) (N := 12) h6 rfl in_X7 (by decide) wd286) ?_
  refine ac (s_icmp_le (M := M_R_truncateInput) (pc := 9) h9 (by decide)) ?_
  refine ac (s_iconst (M := M_R_truncateInput) (pc := 12) h12 rfl) ?_
  refine ac (s_zret (M := M_R_truncateInput) (pc := 13) h13 rfl) ?_
  refine ac (s_aldn (M := M_R_truncateInput) (pc := 14) (k := 0) h14) ?_
  refine ac (s_ildn (M := M_R_truncateInput) (pc := 15) (k := 1) h15) ?_
  refine ac (s_puti (M := M_R_truncateInput) (pc := 16) (T := TX7) (N := 12) (ty0 := tyX7) h16 ⟨rfl, in_X7, by decide, wd286, tyX7_ok, nmX7, (Or.inl rfl)⟩ rfl) ?_
  refine ac (s_iconst (M := M_R_truncateInput) (pc := 19) h19 rfl) ?_
  refine ac (s_zret (M := M_R_truncateInput) (pc := 20) h20 rfl) ?_
  exact ac_nil
theorem e0_R_loadMill : decode prog_1_method_4_code 0 = .ok (.aload_n 0, 1) ∧ decode prog_1_method_4_code 1 = .ok (.getfield 36, 3) ∧ decode prog_1_method_4_code 4 = .ok (.getfield 80, 3) ∧ decode prog_1_method_4_code 7 = .ok (.aload_n 0, 1) ∧ decode prog_1_method_4_code 8 = .ok (.getfield 9, 3) ∧ decode prog_1_method_4_code 11 = .ok (.aload_n 0, 1) ∧ decode prog_1_method_4_code 12 = .ok (.getfield 74, 3) ∧ decode prog_1_method_4_code 15 = .ok (.invokevirtual 84, 3) ∧ decode prog_1_method_4_code 18 = .ok (.aload_n 0, 1) ∧ decode prog_1_method_4_code 19 = .ok (.getfield 36, 3) ∧ decode prog_1_method_4_code 22 = .ok (.aload_n 0, 1) ∧ decode prog_1_method_4_code 23 = .ok (.getfield 20, 3) := by decide +kernel
theorem e1_R_loadMill : decode prog_1_method_4_code 26 = .ok (.invokevirtual 90, 3) ∧ decode prog_1_method_4_code 29 = .ok (.istore_n 1, 1) ∧ decode prog_1_method_4_code 30 = .ok (.aload_n 0, 1) ∧ decode prog_1_method_4_code 31 = .ok (.aload_n 0, 1) ∧ decode prog_1_method_4_code 32 = .ok (.getfield 36, 3) ∧ decode prog_1_method_4_code 35 = .ok (.getfield 80, 3) ∧ decode prog_1_method_4_code 38 = .ok (.invokevirtual 94, 3) ∧ decode prog_1_method_4_code 41 = .ok (.iload_n 1, 1) ∧ decode prog_1_method_4_code 42 = .ok (.ifCond .ne 5, 3) ∧ decode prog_1_method_4_code 45 = .ok (.iconst (-1), 1) ∧ decode prog_1_method_4_code 46 = .ok (.ireturn, 1) ∧ decode prog_1_method_4_code 47 = .ok (.aload_n 0, 1) := by decide +kernel
theorem e2_R_loadMill : decode prog_1_method_4_code 48 = .ok (.getfield 16, 3) ∧ decode prog_1_method_4_code 51 = .ok (.aload_n 0, 1) ∧ decode prog_1_method_4_code 52 = .ok (.getfield 20, 3) ∧ decode prog_1_method_4_code 55 = .ok (.invokevirtual 98, 3) ∧ decode prog_1_method_4_code 58 = .ok (.aload_n 0, 1) ∧ decode prog_1_method_4_code 59 = .ok (.getfield 29, 3) ∧ decode prog_1_method_4_code 62 = .ok (.invokevirtual 102, 3) ∧ decode prog_1_method_4_code 65 = .ok (.aload_n 0, 1) ∧ decode prog_1_method_4_code 66 = .ok (.iconst 0, 1) ∧ decode prog_1_method_4_code 67 = .ok (.putfield 105, 3) ∧ decode prog_1_method_4_code 70 = .ok (.aload_n 0, 1) ∧ decode prog_1_method_4_code 71 = .ok (.getfield 16, 3) := by decide +kernel
theorem e3_R_loadMill : decode prog_1_method_4_code 74 = .ok (.getfield 61, 3) ∧ decode prog_1_method_4_code 77 = .ok (.getfield 109, 3) ∧ decode prog_1_method_4_code 80 = .ok (.ireturn, 1) := by decide +kernel
def T_R_loadMill : TT := [(0, o_ald 0 1), (1, o_get 0 7 4), (4, o_get 5 0 7), (7, o_ald 0 8), (8, o_get 0 0 11), (11, o_ald 0 12), (12, o_get 0 1 15), (15, o_callV M_Tk_read 4 3 18), (18, o_ald 0 19), (19, o_get 0 7 22), (22, o_ald 0 23), (23, o_get 0 3 26), (26, o_callV M_Se_readSetup 5 2 29), (29, o_ist 1 30), (30, o_ald 0 31), (31, o_ald 0 32), (32, o_get 0 7 35), (35, o_get 5 0 38), (38, o_callV M_R_endText 0 2 41), (41, o_ild 1 42), (42, o_if_ne 47 45), (45, o_push (.int (iI (-1))) 46), (46, o_iret), (47, o_ald 0 48), (48, o_get 0 2 51), (51, o_ald 0 52), (52, o_get 0 3 55), (55, o_callV M_Ml_copyFrom 1 2 58), (58, o_ald 0 59), (59, o_get 0 6 62), (62, o_callV M_Ch_clear 3 1 65), (65, o_ald 0 66), (66, o_push (.int (iI (0))) 67), (67, o_putz 0 5 70), (70, o_ald 0 71), (71, o_get 0 2 74), (74, o_get 1 0 77), (77, o_get 2 2 80), (80, o_iret)]
theorem k_R_loadMill : ∀ x ∈ T_R_loadMill, SO M_R_loadMill x.1 x.2 := by
  obtain ⟨h0, h1, h4, h7, h8, h11, h12, h15, h18, h19, h22, h23⟩ := e0_R_loadMill
  obtain ⟨h26, h29, h30, h31, h32, h35, h38, h41, h42, h45, h46, h47⟩ := e1_R_loadMill
  obtain ⟨h48, h51, h52, h55, h58, h59, h62, h65, h66, h67, h70, h71⟩ := e2_R_loadMill
  obtain ⟨h74, h77, h80⟩ := e3_R_loadMill
  refine ac (s_aldn (M := M_R_loadMill) (pc := 0) (k := 0) h0) ?_
  refine ac (s_get (M := M_R_loadMill) (pc := 1) (T := TX7) (N := 12) h1 rfl in_X7 (by decide) wd292) ?_
  refine ac (s_get (M := M_R_loadMill) (pc := 4) (T := TX5) (N := 1) h4 rfl in_X5 (by decide) wd173) ?_
  refine ac (s_aldn (M := M_R_loadMill) (pc := 7) (k := 0) h7) ?_
  refine ac (s_get (M := M_R_loadMill) (pc := 8) (T := TX7) (N := 12) h8 rfl in_X7 (by decide) wd285) ?_
  refine ac (s_aldn (M := M_R_loadMill) (pc := 11) (k := 0) h11) ?_
  refine ac (s_get (M := M_R_loadMill) (pc := 12) (T := TX7) (N := 12) h12 rfl in_X7 (by decide) wd286) ?_
  refine ac (s_callV (M := M_R_loadMill) (pc := 15) (tz_R rfl) h15 q_Tk_read wd734 wd735 wd736 rfl (T := TX6) (N := 7) rfl) ?_
  refine ac (s_aldn (M := M_R_loadMill) (pc := 18) (k := 0) h18) ?_
  refine ac (s_get (M := M_R_loadMill) (pc := 19) (T := TX7) (N := 12) h19 rfl in_X7 (by decide) wd292) ?_
  refine ac (s_aldn (M := M_R_loadMill) (pc := 22) (k := 0) h22) ?_
  refine ac (s_get (M := M_R_loadMill) (pc := 23) (T := TX7) (N := 12) h23 rfl in_X7 (by decide) wd288) ?_
  refine ac (s_callV (M := M_R_loadMill) (pc := 26) (tz_R rfl) h26 q_Se_readSetup wd836 wd837 wd838 rfl (T := TX5) (N := 1) rfl) ?_
  refine ac (s_istn (M := M_R_loadMill) (pc := 29) (k := 1) h29 (by decide)) ?_
  refine ac (s_aldn (M := M_R_loadMill) (pc := 30) (k := 0) h30) ?_
  refine ac (s_aldn (M := M_R_loadMill) (pc := 31) (k := 0) h31) ?_
  refine ac (s_get (M := M_R_loadMill) (pc := 32) (T := TX7) (N := 12) h32 rfl in_X7 (by decide) wd292) ?_
  refine ac (s_get (M := M_R_loadMill) (pc := 35) (T := TX5) (N := 1) h35 rfl in_X5 (by decide) wd173) ?_
  refine ac (s_callV (M := M_R_loadMill) (pc := 38) (tz_R rfl) h38 q_R_endText wd923 wd925 wd17 rfl (T := TX7) (N := 12) rfl) ?_
  refine ac (s_ildn (M := M_R_loadMill) (pc := 41) (k := 1) h41) ?_
  refine ac (s_if_ne (M := M_R_loadMill) (pc := 42) h42 (by decide)) ?_
  refine ac (s_iconst (M := M_R_loadMill) (pc := 45) h45 rfl) ?_
  refine ac (s_iret (M := M_R_loadMill) (pc := 46) h46 rfl) ?_
  refine ac (s_aldn (M := M_R_loadMill) (pc := 47) (k := 0) h47) ?_
  refine ac (s_get (M := M_R_loadMill) (pc := 48) (T := TX7) (N := 12) h48 rfl in_X7 (by decide) wd287) ?_
  refine ac (s_aldn (M := M_R_loadMill) (pc := 51) (k := 0) h51) ?_
  refine ac (s_get (M := M_R_loadMill) (pc := 52) (T := TX7) (N := 12) h52 rfl in_X7 (by decide) wd288) ?_
  refine ac (s_callV (M := M_R_loadMill) (pc := 55) (tz_R rfl) h55 q_Ml_copyFrom wd633 wd568 wd569 rfl (T := TX1) (N := 4) rfl) ?_
  refine ac (s_aldn (M := M_R_loadMill) (pc := 58) (k := 0) h58) ?_
  refine ac (s_get (M := M_R_loadMill) (pc := 59) (T := TX7) (N := 12) h59 rfl in_X7 (by decide) wd291) ?_
  refine ac (s_callV (M := M_R_loadMill) (pc := 62) (tz_R rfl) h62 q_Ch_clear wd653 wd654 wd655 rfl (T := TX0) (N := 3) rfl) ?_
  refine ac (s_aldn (M := M_R_loadMill) (pc := 65) (k := 0) h65) ?_
  refine ac (s_iconst (M := M_R_loadMill) (pc := 66) h66 rfl) ?_
  refine ac (s_putz (M := M_R_loadMill) (pc := 67) (T := TX7) (N := 12) (ty0 := tyX7) h67 ⟨rfl, in_X7, by decide, wd290, tyX7_ok, nmX7, (Or.inl rfl)⟩ rfl) ?_
  refine ac (s_aldn (M := M_R_loadMill) (pc := 70) (k := 0) h70) ?_
  refine ac (s_get (M := M_R_loadMill) (pc := 71) (T := TX7) (N := 12) h71 rfl in_X7 (by decide) wd287) ?_
  refine ac (s_get (M := M_R_loadMill) (pc := 74) (T := TX1) (N := 4) h74 rfl in_X1 (by decide) wd100) ?_
  refine ac (s_get (M := M_R_loadMill) (pc := 77) (T := TX2) (N := 6) h77 rfl in_X2 (by decide) wd74) ?_
  refine ac (s_iret (M := M_R_loadMill) (pc := 80) h80 rfl) ?_
  exact ac_nil
theorem e0_R_greatestDivisor : decode prog_1_method_62_code 0 = .ok (.iload_n 0, 1) ∧ decode prog_1_method_62_code 1 = .ok (.istore_n 2, 1) ∧ decode prog_1_method_62_code 2 = .ok (.iload_n 1, 1) ∧ decode prog_1_method_62_code 3 = .ok (.istore_n 3, 1) ∧ decode prog_1_method_62_code 4 = .ok (.iconst 0, 1) ∧ decode prog_1_method_62_code 5 = .ok (.istore 4, 2) ∧ decode prog_1_method_62_code 7 = .ok (.iload 4, 2) ∧ decode prog_1_method_62_code 9 = .ok (.bipush 64, 2) ∧ decode prog_1_method_62_code 11 = .ok (.if_icmp .ge 23, 3) ∧ decode prog_1_method_62_code 14 = .ok (.iload_n 3, 1) ∧ decode prog_1_method_62_code 15 = .ok (.ifCond .le 19, 3) ∧ decode prog_1_method_62_code 18 = .ok (.iload_n 2, 1) := by decide +kernel
theorem e1_R_greatestDivisor : decode prog_1_method_62_code 19 = .ok (.iload_n 3, 1) ∧ decode prog_1_method_62_code 20 = .ok (.irem, 1) ∧ decode prog_1_method_62_code 21 = .ok (.istore 5, 2) ∧ decode prog_1_method_62_code 23 = .ok (.iload_n 3, 1) ∧ decode prog_1_method_62_code 24 = .ok (.istore_n 2, 1) ∧ decode prog_1_method_62_code 25 = .ok (.iload 5, 2) ∧ decode prog_1_method_62_code 27 = .ok (.istore_n 3, 1) ∧ decode prog_1_method_62_code 28 = .ok (.iinc 4 1, 3) ∧ decode prog_1_method_62_code 31 = .ok (.goto (-24), 3) ∧ decode prog_1_method_62_code 34 = .ok (.iload_n 2, 1) ∧ decode prog_1_method_62_code 35 = .ok (.ireturn, 1) := by decide +kernel
def T_R_greatestDivisor : TT := [(0, o_ild 0 1), (1, o_ist 2 2), (2, o_ild 1 3), (3, o_ist 3 4), (4, o_push (.int (iI (0))) 5), (5, o_ist 4 7), (7, o_ild 4 9), (9, o_push (.int (iI (64))) 11), (11, o_icmp_ge 34 14), (14, o_ild 3 15), (15, o_if_le 34 18), (18, o_ild 2 19), (19, o_ild 3 20), (20, o_irem 21), (21, o_ist 5 23), (23, o_ild 3 24), (24, o_ist 2 25), (25, o_ild 5 27), (27, o_ist 3 28), (28, o_iinc 4 (iI (1)) 31), (31, o_goto 7), (34, o_ild 2 35), (35, o_iret)]
theorem k_R_greatestDivisor : ∀ x ∈ T_R_greatestDivisor, SO M_R_greatestDivisor x.1 x.2 := by
  obtain ⟨h0, h1, h2, h3, h4, h5, h7, h9, h11, h14, h15, h18⟩ := e0_R_greatestDivisor
  obtain ⟨h19, h20, h21, h23, h24, h25, h27, h28, h31, h34, h35⟩ := e1_R_greatestDivisor
  refine ac (s_ildn (M := M_R_greatestDivisor) (pc := 0) (k := 0) h0) ?_
  refine ac (s_istn (M := M_R_greatestDivisor) (pc := 1) (k := 2) h1 (by decide)) ?_
  refine ac (s_ildn (M := M_R_greatestDivisor) (pc := 2) (k := 1) h2) ?_
  refine ac (s_istn (M := M_R_greatestDivisor) (pc := 3) (k := 3) h3 (by decide)) ?_
  refine ac (s_iconst (M := M_R_greatestDivisor) (pc := 4) h4 rfl) ?_
  refine ac (s_ist (M := M_R_greatestDivisor) (pc := 5) h5 (by decide)) ?_
  refine ac (s_ild (M := M_R_greatestDivisor) (pc := 7) h7) ?_
  refine ac (s_bipush (M := M_R_greatestDivisor) (pc := 9) h9 (by decide)) ?_
  refine ac (s_icmp_ge (M := M_R_greatestDivisor) (pc := 11) h11 (by decide)) ?_
  refine ac (s_ildn (M := M_R_greatestDivisor) (pc := 14) (k := 3) h14) ?_
  refine ac (s_if_le (M := M_R_greatestDivisor) (pc := 15) h15 (by decide)) ?_
  refine ac (s_ildn (M := M_R_greatestDivisor) (pc := 18) (k := 2) h18) ?_
  refine ac (s_ildn (M := M_R_greatestDivisor) (pc := 19) (k := 3) h19) ?_
  refine ac (s_irem (M := M_R_greatestDivisor) (pc := 20) h20) ?_
  refine ac (s_ist (M := M_R_greatestDivisor) (pc := 21) h21 (by decide)) ?_
  refine ac (s_ildn (M := M_R_greatestDivisor) (pc := 23) (k := 3) h23) ?_
  refine ac (s_istn (M := M_R_greatestDivisor) (pc := 24) (k := 2) h24 (by decide)) ?_
  refine ac (s_ild (M := M_R_greatestDivisor) (pc := 25) h25) ?_
  refine ac (s_istn (M := M_R_greatestDivisor) (pc := 27) (k := 3) h27 (by decide)) ?_
  refine ac (s_iinc (M := M_R_greatestDivisor) (pc := 28) h28 rfl (by decide)) ?_
  refine ac (s_goto (M := M_R_greatestDivisor) (pc := 31) h31 (by decide)) ?_
  refine ac (s_ildn (M := M_R_greatestDivisor) (pc := 34) (k := 2) h34) ?_
  refine ac (s_iret (M := M_R_greatestDivisor) (pc := 35) h35 rfl) ?_
  exact ac_nil
theorem e0_R_endText : decode prog_1_method_50_code 0 = .ok (.aload_n 0, 1) ∧ decode prog_1_method_50_code 1 = .ok (.iconst 0, 1) ∧ decode prog_1_method_50_code 2 = .ok (.putfield 74, 3) ∧ decode prog_1_method_50_code 5 = .ok (.aload_n 0, 1) ∧ decode prog_1_method_50_code 6 = .ok (.aload_n 1, 1) ∧ decode prog_1_method_50_code 7 = .ok (.getfield 333, 3) ∧ decode prog_1_method_50_code 10 = .ok (.putfield 47, 3) ∧ decode prog_1_method_50_code 13 = .ok (.aload_n 0, 1) ∧ decode prog_1_method_50_code 14 = .ok (.aload_n 1, 1) ∧ decode prog_1_method_50_code 15 = .ok (.getfield 336, 3) ∧ decode prog_1_method_50_code 18 = .ok (.putfield 51, 3) ∧ decode prog_1_method_50_code 21 = .ok (.return_, 1) := by decide +kernel
def T_R_endText : TT := [(0, o_ald 0 1), (1, o_push (.int (iI (0))) 2), (2, o_puti 0 1 5), (5, o_ald 0 6), (6, o_ald 1 7), (7, o_get 4 5 10), (10, o_puti 0 9 13), (13, o_ald 0 14), (14, o_ald 1 15), (15, o_get 4 6 18), (18, o_puti 0 10 21), (21, o_vret)]
theorem k_R_endText : ∀ x ∈ T_R_endText, SO M_R_endText x.1 x.2 := by
  obtain ⟨h0, h1, h2, h5, h6, h7, h10, h13, h14, h15, h18, h21⟩ := e0_R_endText
  refine ac (s_aldn (M := M_R_endText) (pc := 0) (k := 0) h0) ?_
  refine ac (s_iconst (M := M_R_endText) (pc := 1) h1 rfl) ?_
  refine ac (s_puti (M := M_R_endText) (pc := 2) (T := TX7) (N := 12) (ty0 := tyX7) h2 ⟨rfl, in_X7, by decide, wd286, tyX7_ok, nmX7, (Or.inl rfl)⟩ rfl) ?_
  refine ac (s_aldn (M := M_R_endText) (pc := 5) (k := 0) h5) ?_
  refine ac (s_aldn (M := M_R_endText) (pc := 6) (k := 1) h6) ?_
  refine ac (s_get (M := M_R_endText) (pc := 7) (T := TX6) (N := 7) h7 rfl in_X6 (by decide) wd154) ?_
  refine ac (s_puti (M := M_R_endText) (pc := 10) (T := TX7) (N := 12) (ty0 := tyX7) h10 ⟨rfl, in_X7, by decide, wd294, tyX7_ok, nmX7, (Or.inl rfl)⟩ rfl) ?_
  refine ac (s_aldn (M := M_R_endText) (pc := 13) (k := 0) h13) ?_
  refine ac (s_aldn (M := M_R_endText) (pc := 14) (k := 1) h14) ?_
  refine ac (s_get (M := M_R_endText) (pc := 15) (T := TX6) (N := 7) h15 rfl in_X6 (by decide) wd156) ?_
  refine ac (s_puti (M := M_R_endText) (pc := 18) (T := TX7) (N := 12) (ty0 := tyX7) h18 ⟨rfl, in_X7, by decide, wd295, tyX7_ok, nmX7, (Or.inl rfl)⟩ rfl) ?_
  refine ac (s_vret (M := M_R_endText) (pc := 21) h21 rfl) ?_
  exact ac_nil
theorem e0_R_value : decode prog_1_method_18_code 0 = .ok (.aload_n 0, 1) ∧ decode prog_1_method_18_code 1 = .ok (.iload_n 1, 1) ∧ decode prog_1_method_18_code 2 = .ok (.invokevirtual 178, 3) ∧ decode prog_1_method_18_code 5 = .ok (.aload_n 0, 1) ∧ decode prog_1_method_18_code 6 = .ok (.getfield 16, 3) ∧ decode prog_1_method_18_code 9 = .ok (.iload_n 1, 1) ∧ decode prog_1_method_18_code 10 = .ok (.invokevirtual 199, 3) ∧ decode prog_1_method_18_code 13 = .ok (.lreturn, 1) := by decide +kernel
def T_R_value : TT := [(0, o_ald 0 1), (1, o_ild 1 2), (2, o_alt (o_callV M_R_needRegister 0 2 5) (o_callVB M_R_needRegister 0 2 1 6 5)), (5, o_ald 0 6), (6, o_get 0 2 9), (9, o_ild 1 10), (10, o_callV M_Ml_valueAt 1 2 13), (13, o_lret)]
theorem k_R_value : ∀ x ∈ T_R_value, SO M_R_value x.1 x.2 := by
  obtain ⟨h0, h1, h2, h5, h6, h9, h10, h13⟩ := e0_R_value
  refine ac (s_aldn (M := M_R_value) (pc := 0) (k := 0) h0) ?_
  refine ac (s_ildn (M := M_R_value) (pc := 1) (k := 1) h1) ?_
  refine ac (s_alt (M := M_R_value) (pc := 2) (s_callV (tz_R rfl) h2 q_R_needRegister wd459 wd461 wd3 rfl (T := TX7) (N := 12) rfl) (s_callVB (mc1 := 1) (ms1 := 6) (tz_R rfl) h2 q_R_needRegister wd459 wd461 wd3 rfl (T := TX7) (N := 12) rfl)) ?_
  refine ac (s_aldn (M := M_R_value) (pc := 5) (k := 0) h5) ?_
  refine ac (s_get (M := M_R_value) (pc := 6) (T := TX7) (N := 12) h6 rfl in_X7 (by decide) wd287) ?_
  refine ac (s_ildn (M := M_R_value) (pc := 9) (k := 1) h9) ?_
  refine ac (s_callV (M := M_R_value) (pc := 10) (tz_R rfl) h10 q_Ml_valueAt wd491 wd492 wd493 rfl (T := TX1) (N := 4) rfl) ?_
  refine ac (s_lret (M := M_R_value) (pc := 13) h13 rfl) ?_
  exact ac_nil
theorem e0_R_part : decode prog_1_method_16_code 0 = .ok (.aload_n 0, 1) ∧ decode prog_1_method_16_code 1 = .ok (.iload_n 1, 1) ∧ decode prog_1_method_16_code 2 = .ok (.invokevirtual 178, 3) ∧ decode prog_1_method_16_code 5 = .ok (.aload_n 0, 1) ∧ decode prog_1_method_16_code 6 = .ok (.iload_n 2, 1) ∧ decode prog_1_method_16_code 7 = .ok (.invokevirtual 164, 3) ∧ decode prog_1_method_16_code 10 = .ok (.aload_n 0, 1) ∧ decode prog_1_method_16_code 11 = .ok (.getfield 16, 3) ∧ decode prog_1_method_16_code 14 = .ok (.iload_n 1, 1) ∧ decode prog_1_method_16_code 15 = .ok (.iload_n 2, 1) ∧ decode prog_1_method_16_code 16 = .ok (.invokevirtual 188, 3) ∧ decode prog_1_method_16_code 19 = .ok (.lreturn, 1) := by decide +kernel
def T_R_part : TT := [(0, o_ald 0 1), (1, o_ild 1 2), (2, o_alt (o_callV M_R_needRegister 0 2 5) (o_callVB M_R_needRegister 0 2 1 6 5)), (5, o_ald 0 6), (6, o_ild 2 7), (7, o_alt (o_callV M_R_needModulus 0 2 10) (o_callVB M_R_needModulus 0 2 1 6 10)), (10, o_ald 0 11), (11, o_get 0 2 14), (14, o_ild 1 15), (15, o_ild 2 16), (16, o_callV M_Ml_partAt 1 3 19), (19, o_lret)]
theorem k_R_part : ∀ x ∈ T_R_part, SO M_R_part x.1 x.2 := by
  obtain ⟨h0, h1, h2, h5, h6, h7, h10, h11, h14, h15, h16, h19⟩ := e0_R_part
  refine ac (s_aldn (M := M_R_part) (pc := 0) (k := 0) h0) ?_
  refine ac (s_ildn (M := M_R_part) (pc := 1) (k := 1) h1) ?_
  refine ac (s_alt (M := M_R_part) (pc := 2) (s_callV (tz_R rfl) h2 q_R_needRegister wd459 wd461 wd3 rfl (T := TX7) (N := 12) rfl) (s_callVB (mc1 := 1) (ms1 := 6) (tz_R rfl) h2 q_R_needRegister wd459 wd461 wd3 rfl (T := TX7) (N := 12) rfl)) ?_
  refine ac (s_aldn (M := M_R_part) (pc := 5) (k := 0) h5) ?_
  refine ac (s_ildn (M := M_R_part) (pc := 6) (k := 2) h6) ?_
  refine ac (s_alt (M := M_R_part) (pc := 7) (s_callV (tz_R rfl) h7 q_R_needModulus wd435 wd437 wd2 rfl (T := TX7) (N := 12) rfl) (s_callVB (mc1 := 1) (ms1 := 6) (tz_R rfl) h7 q_R_needModulus wd435 wd437 wd2 rfl (T := TX7) (N := 12) rfl)) ?_
  refine ac (s_aldn (M := M_R_part) (pc := 10) (k := 0) h10) ?_
  refine ac (s_get (M := M_R_part) (pc := 11) (T := TX7) (N := 12) h11 rfl in_X7 (by decide) wd287) ?_
  refine ac (s_ildn (M := M_R_part) (pc := 14) (k := 1) h14) ?_
  refine ac (s_ildn (M := M_R_part) (pc := 15) (k := 2) h15) ?_
  refine ac (s_callV (M := M_R_part) (pc := 16) (tz_R rfl) h16 q_Ml_partAt wd1145 wd504 wd505 rfl (T := TX1) (N := 4) rfl) ?_
  refine ac (s_lret (M := M_R_part) (pc := 19) h19 rfl) ?_
  exact ac_nil
theorem e0_R_weight : decode prog_1_method_13_code 0 = .ok (.aload_n 0, 1) ∧ decode prog_1_method_13_code 1 = .ok (.iload_n 1, 1) ∧ decode prog_1_method_13_code 2 = .ok (.invokevirtual 164, 3) ∧ decode prog_1_method_13_code 5 = .ok (.aload_n 0, 1) ∧ decode prog_1_method_13_code 6 = .ok (.getfield 16, 3) ∧ decode prog_1_method_13_code 9 = .ok (.getfield 61, 3) ∧ decode prog_1_method_13_code 12 = .ok (.iload_n 1, 1) ∧ decode prog_1_method_13_code 13 = .ok (.invokevirtual 174, 3) ∧ decode prog_1_method_13_code 16 = .ok (.lreturn, 1) := by decide +kernel
def T_R_weight : TT := [(0, o_ald 0 1), (1, o_ild 1 2), (2, o_alt (o_callV M_R_needModulus 0 2 5) (o_callVB M_R_needModulus 0 2 1 6 5)), (5, o_ald 0 6), (6, o_get 0 2 9), (9, o_get 1 0 12), (12, o_ild 1 13), (13, o_callV M_Mo_weightAt 2 2 16), (16, o_lret)]
theorem k_R_weight : ∀ x ∈ T_R_weight, SO M_R_weight x.1 x.2 := by
  obtain ⟨h0, h1, h2, h5, h6, h9, h12, h13, h16⟩ := e0_R_weight
  refine ac (s_aldn (M := M_R_weight) (pc := 0) (k := 0) h0) ?_
  refine ac (s_ildn (M := M_R_weight) (pc := 1) (k := 1) h1) ?_
  refine ac (s_alt (M := M_R_weight) (pc := 2) (s_callV (tz_R rfl) h2 q_R_needModulus wd435 wd437 wd2 rfl (T := TX7) (N := 12) rfl) (s_callVB (mc1 := 1) (ms1 := 6) (tz_R rfl) h2 q_R_needModulus wd435 wd437 wd2 rfl (T := TX7) (N := 12) rfl)) ?_
  refine ac (s_aldn (M := M_R_weight) (pc := 5) (k := 0) h5) ?_
  refine ac (s_get (M := M_R_weight) (pc := 6) (T := TX7) (N := 12) h6 rfl in_X7 (by decide) wd287) ?_
  refine ac (s_get (M := M_R_weight) (pc := 9) (T := TX1) (N := 4) h9 rfl in_X1 (by decide) wd100) ?_
  refine ac (s_ildn (M := M_R_weight) (pc := 12) (k := 1) h12) ?_
  refine ac (s_callV (M := M_R_weight) (pc := 13) (tz_R rfl) h13 q_Mo_weightAt wd1150 wd509 wd510 rfl (T := TX2) (N := 6) rfl) ?_
  refine ac (s_lret (M := M_R_weight) (pc := 16) h16 rfl) ?_
  exact ac_nil
theorem e0_R_digit : decode prog_1_method_15_code 0 = .ok (.aload_n 0, 1) ∧ decode prog_1_method_15_code 1 = .ok (.iload_n 1, 1) ∧ decode prog_1_method_15_code 2 = .ok (.invokevirtual 178, 3) ∧ decode prog_1_method_15_code 5 = .ok (.aload_n 0, 1) ∧ decode prog_1_method_15_code 6 = .ok (.iload_n 2, 1) ∧ decode prog_1_method_15_code 7 = .ok (.invokevirtual 164, 3) ∧ decode prog_1_method_15_code 10 = .ok (.aload_n 0, 1) ∧ decode prog_1_method_15_code 11 = .ok (.getfield 16, 3) ∧ decode prog_1_method_15_code 14 = .ok (.iload_n 1, 1) ∧ decode prog_1_method_15_code 15 = .ok (.iload_n 2, 1) ∧ decode prog_1_method_15_code 16 = .ok (.invokevirtual 185, 3) ∧ decode prog_1_method_15_code 19 = .ok (.ireturn, 1) := by decide +kernel
def T_R_digit : TT := [(0, o_ald 0 1), (1, o_ild 1 2), (2, o_alt (o_callV M_R_needRegister 0 2 5) (o_callVB M_R_needRegister 0 2 1 6 5)), (5, o_ald 0 6), (6, o_ild 2 7), (7, o_alt (o_callV M_R_needModulus 0 2 10) (o_callVB M_R_needModulus 0 2 1 6 10)), (10, o_ald 0 11), (11, o_get 0 2 14), (14, o_ild 1 15), (15, o_ild 2 16), (16, o_callV M_Ml_digitAt 1 3 19), (19, o_iret)]
theorem k_R_digit : ∀ x ∈ T_R_digit, SO M_R_digit x.1 x.2 := by
  obtain ⟨h0, h1, h2, h5, h6, h7, h10, h11, h14, h15, h16, h19⟩ := e0_R_digit
  refine ac (s_aldn (M := M_R_digit) (pc := 0) (k := 0) h0) ?_
  refine ac (s_ildn (M := M_R_digit) (pc := 1) (k := 1) h1) ?_
  refine ac (s_alt (M := M_R_digit) (pc := 2) (s_callV (tz_R rfl) h2 q_R_needRegister wd459 wd461 wd3 rfl (T := TX7) (N := 12) rfl) (s_callVB (mc1 := 1) (ms1 := 6) (tz_R rfl) h2 q_R_needRegister wd459 wd461 wd3 rfl (T := TX7) (N := 12) rfl)) ?_
  refine ac (s_aldn (M := M_R_digit) (pc := 5) (k := 0) h5) ?_
  refine ac (s_ildn (M := M_R_digit) (pc := 6) (k := 2) h6) ?_
  refine ac (s_alt (M := M_R_digit) (pc := 7) (s_callV (tz_R rfl) h7 q_R_needModulus wd435 wd437 wd2 rfl (T := TX7) (N := 12) rfl) (s_callVB (mc1 := 1) (ms1 := 6) (tz_R rfl) h7 q_R_needModulus wd435 wd437 wd2 rfl (T := TX7) (N := 12) rfl)) ?_
  refine ac (s_aldn (M := M_R_digit) (pc := 10) (k := 0) h10) ?_
  refine ac (s_get (M := M_R_digit) (pc := 11) (T := TX7) (N := 12) h11 rfl in_X7 (by decide) wd287) ?_
  refine ac (s_ildn (M := M_R_digit) (pc := 14) (k := 1) h14) ?_
  refine ac (s_ildn (M := M_R_digit) (pc := 15) (k := 2) h15) ?_
  refine ac (s_callV (M := M_R_digit) (pc := 16) (tz_R rfl) h16 q_Ml_digitAt wd1155 wd517 wd518 rfl (T := TX1) (N := 4) rfl) ?_
  refine ac (s_iret (M := M_R_digit) (pc := 19) h19 rfl) ?_
  exact ac_nil
theorem e0_R_rank : decode prog_1_method_17_code 0 = .ok (.aload_n 0, 1) ∧ decode prog_1_method_17_code 1 = .ok (.iload_n 1, 1) ∧ decode prog_1_method_17_code 2 = .ok (.invokevirtual 178, 3) ∧ decode prog_1_method_17_code 5 = .ok (.aload_n 0, 1) ∧ decode prog_1_method_17_code 6 = .ok (.getfield 16, 3) ∧ decode prog_1_method_17_code 9 = .ok (.iload_n 1, 1) ∧ decode prog_1_method_17_code 10 = .ok (.invokevirtual 192, 3) ∧ decode prog_1_method_17_code 13 = .ok (.aload_n 0, 1) ∧ decode prog_1_method_17_code 14 = .ok (.getfield 16, 3) ∧ decode prog_1_method_17_code 17 = .ok (.getfield 61, 3) ∧ decode prog_1_method_17_code 20 = .ok (.getfield 157, 3) ∧ decode prog_1_method_17_code 23 = .ok (.invokestatic 195, 3) := by decide +kernel
theorem e1_R_rank : decode prog_1_method_17_code 26 = .ok (.l2i, 1) ∧ decode prog_1_method_17_code 27 = .ok (.ireturn, 1) := by decide +kernel
def T_R_rank : TT := [(0, o_ald 0 1), (1, o_ild 1 2), (2, o_alt (o_callV M_R_needRegister 0 2 5) (o_callVB M_R_needRegister 0 2 1 6 5)), (5, o_ald 0 6), (6, o_get 0 2 9), (9, o_ild 1 10), (10, o_callV M_Ml_sumOfParts 1 2 13), (13, o_ald 0 14), (14, o_get 0 2 17), (17, o_get 1 0 20), (20, o_get 2 4 23), (23, o_call M_R_floorQuotient 2 26), (26, o_l2i 27), (27, o_iret)]
theorem k_R_rank : ∀ x ∈ T_R_rank, SO M_R_rank x.1 x.2 := by
  obtain ⟨h0, h1, h2, h5, h6, h9, h10, h13, h14, h17, h20, h23⟩ := e0_R_rank
  obtain ⟨h26, h27⟩ := e1_R_rank
  refine ac (s_aldn (M := M_R_rank) (pc := 0) (k := 0) h0) ?_
  refine ac (s_ildn (M := M_R_rank) (pc := 1) (k := 1) h1) ?_
  refine ac (s_alt (M := M_R_rank) (pc := 2) (s_callV (tz_R rfl) h2 q_R_needRegister wd459 wd461 wd3 rfl (T := TX7) (N := 12) rfl) (s_callVB (mc1 := 1) (ms1 := 6) (tz_R rfl) h2 q_R_needRegister wd459 wd461 wd3 rfl (T := TX7) (N := 12) rfl)) ?_
  refine ac (s_aldn (M := M_R_rank) (pc := 5) (k := 0) h5) ?_
  refine ac (s_get (M := M_R_rank) (pc := 6) (T := TX7) (N := 12) h6 rfl in_X7 (by decide) wd287) ?_
  refine ac (s_ildn (M := M_R_rank) (pc := 9) (k := 1) h9) ?_
  refine ac (s_callV (M := M_R_rank) (pc := 10) (tz_R rfl) h10 q_Ml_sumOfParts wd499 wd500 wd501 rfl (T := TX1) (N := 4) rfl) ?_
  refine ac (s_aldn (M := M_R_rank) (pc := 13) (k := 0) h13) ?_
  refine ac (s_get (M := M_R_rank) (pc := 14) (T := TX7) (N := 12) h14 rfl in_X7 (by decide) wd287) ?_
  refine ac (s_get (M := M_R_rank) (pc := 17) (T := TX1) (N := 4) h17 rfl in_X1 (by decide) wd100) ?_
  refine ac (s_get (M := M_R_rank) (pc := 20) (T := TX2) (N := 6) h20 rfl in_X2 (by decide) wd80) ?_
  refine ac (s_callS (M := M_R_rank) (pc := 23) (tz_R rfl) h23 q_R_floorQuotient wd1160 wd267) ?_
  refine ac (s_l2i (M := M_R_rank) (pc := 26) h26) ?_
  refine ac (s_iret (M := M_R_rank) (pc := 27) h27 rfl) ?_
  exact ac_nil
theorem e0_R_why : decode prog_1_method_26_code 0 = .ok (.aload_n 0, 1) ∧ decode prog_1_method_26_code 1 = .ok (.iload_n 1, 1) ∧ decode prog_1_method_26_code 2 = .ok (.invokevirtual 227, 3) ∧ decode prog_1_method_26_code 5 = .ok (.aload_n 0, 1) ∧ decode prog_1_method_26_code 6 = .ok (.iload_n 2, 1) ∧ decode prog_1_method_26_code 7 = .ok (.invokevirtual 178, 3) ∧ decode prog_1_method_26_code 10 = .ok (.aload_n 0, 1) ∧ decode prog_1_method_26_code 11 = .ok (.iload_n 3, 1) ∧ decode prog_1_method_26_code 12 = .ok (.invokevirtual 178, 3) ∧ decode prog_1_method_26_code 15 = .ok (.aload_n 0, 1) ∧ decode prog_1_method_26_code 16 = .ok (.getfield 16, 3) ∧ decode prog_1_method_26_code 19 = .ok (.iload_n 2, 1) := by decide +kernel
theorem e1_R_why : decode prog_1_method_26_code 20 = .ok (.invokevirtual 202, 3) ∧ decode prog_1_method_26_code 23 = .ok (.lstore 4, 2) ∧ decode prog_1_method_26_code 25 = .ok (.aload_n 0, 1) ∧ decode prog_1_method_26_code 26 = .ok (.getfield 16, 3) ∧ decode prog_1_method_26_code 29 = .ok (.iload_n 3, 1) ∧ decode prog_1_method_26_code 30 = .ok (.invokevirtual 202, 3) ∧ decode prog_1_method_26_code 33 = .ok (.lstore 6, 2) ∧ decode prog_1_method_26_code 35 = .ok (.aload_n 0, 1) ∧ decode prog_1_method_26_code 36 = .ok (.getfield 16, 3) ∧ decode prog_1_method_26_code 39 = .ok (.iload_n 1, 1) ∧ decode prog_1_method_26_code 40 = .ok (.lload 4, 2) ∧ decode prog_1_method_26_code 42 = .ok (.lload 6, 2) := by decide +kernel
theorem e2_R_why : decode prog_1_method_26_code 44 = .ok (.invokevirtual 240, 3) ∧ decode prog_1_method_26_code 47 = .ok (.istore 8, 2) ∧ decode prog_1_method_26_code 49 = .ok (.iload 8, 2) ∧ decode prog_1_method_26_code 51 = .ok (.ifCond .eq 6, 3) ∧ decode prog_1_method_26_code 54 = .ok (.iload 8, 2) ∧ decode prog_1_method_26_code 56 = .ok (.ireturn, 1) ∧ decode prog_1_method_26_code 57 = .ok (.iload_n 1, 1) ∧ decode prog_1_method_26_code 58 = .ok (.lload 4, 2) ∧ decode prog_1_method_26_code 60 = .ok (.lload 6, 2) ∧ decode prog_1_method_26_code 62 = .ok (.invokestatic 236, 3) ∧ decode prog_1_method_26_code 65 = .ok (.lstore 9, 2) ∧ decode prog_1_method_26_code 67 = .ok (.lload 9, 2) := by decide +kernel
theorem e3_R_why : decode prog_1_method_26_code 69 = .ok (.aload_n 0, 1) ∧ decode prog_1_method_26_code 70 = .ok (.getfield 16, 3) ∧ decode prog_1_method_26_code 73 = .ok (.getfield 61, 3) ∧ decode prog_1_method_26_code 76 = .ok (.getfield 157, 3) ∧ decode prog_1_method_26_code 79 = .ok (.invokestatic 244, 3) ∧ decode prog_1_method_26_code 82 = .ok (.lload 9, 2) ∧ decode prog_1_method_26_code 84 = .ok (.lcmp, 1) ∧ decode prog_1_method_26_code 85 = .ok (.ifCond .ne 7, 3) ∧ decode prog_1_method_26_code 88 = .ok (.iconst 0, 1) ∧ decode prog_1_method_26_code 89 = .ok (.goto 5, 3) ∧ decode prog_1_method_26_code 92 = .ok (.bipush 6, 2) ∧ decode prog_1_method_26_code 94 = .ok (.ireturn, 1) := by decide +kernel
def T_R_why : TT := [(0, o_ald 0 1), (1, o_ild 1 2), (2, o_alt (o_callV M_R_needOperation 0 2 5) (o_callVB M_R_needOperation 0 2 1 6 5)), (5, o_ald 0 6), (6, o_ild 2 7), (7, o_alt (o_callV M_R_needRegister 0 2 10) (o_callVB M_R_needRegister 0 2 1 6 10)), (10, o_ald 0 11), (11, o_ild 3 12), (12, o_alt (o_callV M_R_needRegister 0 2 15) (o_callVB M_R_needRegister 0 2 1 6 15)), (15, o_ald 0 16), (16, o_get 0 2 19), (19, o_ild 2 20), (20, o_callV M_Ml_numberAt 1 2 23), (23, o_lst 4 25), (25, o_ald 0 26), (26, o_get 0 2 29), (29, o_ild 3 30), (30, o_callV M_Ml_numberAt 1 2 33), (33, o_lst 6 35), (35, o_ald 0 36), (36, o_get 0 2 39), (39, o_ild 1 40), (40, o_lld 4 42), (42, o_lld 6 44), (44, o_callV M_Ml_reasonOf 1 4 47), (47, o_ist 8 49), (49, o_ild 8 51), (51, o_if_eq 57 54), (54, o_ild 8 56), (56, o_iret), (57, o_ild 1 58), (58, o_lld 4 60), (60, o_lld 6 62), (62, o_call M_R_exactOf 3 65), (65, o_lst 9 67), (67, o_lld 9 69), (69, o_ald 0 70), (70, o_get 0 2 73), (73, o_get 1 0 76), (76, o_get 2 4 79), (79, o_call M_R_numberIn 2 82), (82, o_lld 9 84), (84, o_lc_ne 92 88), (88, o_push (.int (iI (0))) 89), (89, o_goto 94), (92, o_push (.int (iI (6))) 94), (94, o_iret)]
theorem k_R_why : ∀ x ∈ T_R_why, SO M_R_why x.1 x.2 := by
  obtain ⟨h0, h1, h2, h5, h6, h7, h10, h11, h12, h15, h16, h19⟩ := e0_R_why
  obtain ⟨h20, h23, h25, h26, h29, h30, h33, h35, h36, h39, h40, h42⟩ := e1_R_why
  obtain ⟨h44, h47, h49, h51, h54, h56, h57, h58, h60, h62, h65, h67⟩ := e2_R_why
  obtain ⟨h69, h70, h73, h76, h79, h82, h84, h85, h88, h89, h92, h94⟩ := e3_R_why
  refine ac (s_aldn (M := M_R_why) (pc := 0) (k := 0) h0) ?_
  refine ac (s_ildn (M := M_R_why) (pc := 1) (k := 1) h1) ?_
  refine ac (s_alt (M := M_R_why) (pc := 2) (s_callV (tz_R rfl) h2 q_R_needOperation wd1168 wd1170 wd18 rfl (T := TX7) (N := 12) rfl) (s_callVB (mc1 := 1) (ms1 := 6) (tz_R rfl) h2 q_R_needOperation wd1168 wd1170 wd18 rfl (T := TX7) (N := 12) rfl)) ?_
  refine ac (s_aldn (M := M_R_why) (pc := 5) (k := 0) h5) ?_
  refine ac (s_ildn (M := M_R_why) (pc := 6) (k := 2) h6) ?_
  refine ac (s_alt (M := M_R_why) (pc := 7) (s_callV (tz_R rfl) h7 q_R_needRegister wd459 wd461 wd3 rfl (T := TX7) (N := 12) rfl) (s_callVB (mc1 := 1) (ms1 := 6) (tz_R rfl) h7 q_R_needRegister wd459 wd461 wd3 rfl (T := TX7) (N := 12) rfl)) ?_
  refine ac (s_aldn (M := M_R_why) (pc := 10) (k := 0) h10) ?_
  refine ac (s_ildn (M := M_R_why) (pc := 11) (k := 3) h11) ?_
  refine ac (s_alt (M := M_R_why) (pc := 12) (s_callV (tz_R rfl) h12 q_R_needRegister wd459 wd461 wd3 rfl (T := TX7) (N := 12) rfl) (s_callVB (mc1 := 1) (ms1 := 6) (tz_R rfl) h12 q_R_needRegister wd459 wd461 wd3 rfl (T := TX7) (N := 12) rfl)) ?_
  refine ac (s_aldn (M := M_R_why) (pc := 15) (k := 0) h15) ?_
  refine ac (s_get (M := M_R_why) (pc := 16) (T := TX7) (N := 12) h16 rfl in_X7 (by decide) wd287) ?_
  refine ac (s_ildn (M := M_R_why) (pc := 19) (k := 2) h19) ?_
  refine ac (s_callV (M := M_R_why) (pc := 20) (tz_R rfl) h20 q_Ml_numberAt wd473 wd335 wd336 rfl (T := TX1) (N := 4) rfl) ?_
  refine ac (s_lst (M := M_R_why) (pc := 23) h23 (by decide)) ?_
  refine ac (s_aldn (M := M_R_why) (pc := 25) (k := 0) h25) ?_
  refine ac (s_get (M := M_R_why) (pc := 26) (T := TX7) (N := 12) h26 rfl in_X7 (by decide) wd287) ?_
  refine ac (s_ildn (M := M_R_why) (pc := 29) (k := 3) h29) ?_
  refine ac (s_callV (M := M_R_why) (pc := 30) (tz_R rfl) h30 q_Ml_numberAt wd473 wd335 wd336 rfl (T := TX1) (N := 4) rfl) ?_
  refine ac (s_lst (M := M_R_why) (pc := 33) h33 (by decide)) ?_
  refine ac (s_aldn (M := M_R_why) (pc := 35) (k := 0) h35) ?_
  refine ac (s_get (M := M_R_why) (pc := 36) (T := TX7) (N := 12) h36 rfl in_X7 (by decide) wd287) ?_
  refine ac (s_ildn (M := M_R_why) (pc := 39) (k := 1) h39) ?_
  refine ac (s_lld (M := M_R_why) (pc := 40) h40) ?_
  refine ac (s_lld (M := M_R_why) (pc := 42) h42) ?_
  refine ac (s_callV (M := M_R_why) (pc := 44) (tz_R rfl) h44 q_Ml_reasonOf wd1172 wd1173 wd1174 rfl (T := TX1) (N := 4) rfl) ?_
  refine ac (s_ist (M := M_R_why) (pc := 47) h47 (by decide)) ?_
  refine ac (s_ild (M := M_R_why) (pc := 49) h49) ?_
  refine ac (s_if_eq (M := M_R_why) (pc := 51) h51 (by decide)) ?_
  refine ac (s_ild (M := M_R_why) (pc := 54) h54) ?_
  refine ac (s_iret (M := M_R_why) (pc := 56) h56 rfl) ?_
  refine ac (s_ildn (M := M_R_why) (pc := 57) (k := 1) h57) ?_
  refine ac (s_lld (M := M_R_why) (pc := 58) h58) ?_
  refine ac (s_lld (M := M_R_why) (pc := 60) h60) ?_
  refine ac (s_callS (M := M_R_why) (pc := 62) (tz_R rfl) h62 q_R_exactOf wd1186 wd1180) ?_
  refine ac (s_lst (M := M_R_why) (pc := 65) h65 (by decide)) ?_
  refine ac (s_lld (M := M_R_why) (pc := 67) h67) ?_
  refine ac (s_aldn (M := M_R_why) (pc := 69) (k := 0) h69) ?_
  refine ac (s_get (M := M_R_why) (pc := 70) (T := TX7) (N := 12) h70 rfl in_X7 (by decide) wd287) ?_
  refine ac (s_get (M := M_R_why) (pc := 73) (T := TX1) (N := 4) h73 rfl in_X1 (by decide) wd100) ?_
  refine ac (s_get (M := M_R_why) (pc := 76) (T := TX2) (N := 6) h76 rfl in_X2 (by decide) wd80) ?_
  refine ac (s_callS (M := M_R_why) (pc := 79) (tz_R rfl) h79 q_R_numberIn wd1187 wd538) ?_
  refine ac (s_lld (M := M_R_why) (pc := 82) h82) ?_
  refine ac (s_lc_ne (M := M_R_why) (pc := 84) h84 h85 (by decide)) ?_
  refine ac (s_iconst (M := M_R_why) (pc := 88) h88 rfl) ?_
  refine ac (s_goto (M := M_R_why) (pc := 89) h89 (by decide)) ?_
  refine ac (s_bipush (M := M_R_why) (pc := 92) h92 (by decide)) ?_
  refine ac (s_iret (M := M_R_why) (pc := 94) h94 rfl) ?_
  exact ac_nil
theorem e0_R_needOperation : decode prog_1_method_54_code 0 = .ok (.iload_n 1, 1) ∧ decode prog_1_method_54_code 1 = .ok (.ifCond .lt 8, 3) ∧ decode prog_1_method_54_code 4 = .ok (.iload_n 1, 1) ∧ decode prog_1_method_54_code 5 = .ok (.iconst 4, 1) ∧ decode prog_1_method_54_code 6 = .ok (.if_icmp .le 11, 3) ∧ decode prog_1_method_54_code 9 = .ok (.new 147, 3) ∧ decode prog_1_method_54_code 12 = .ok (.dup, 1) ∧ decode prog_1_method_54_code 13 = .ok (.invokespecial 149, 3) ∧ decode prog_1_method_54_code 16 = .ok (.athrow, 1) ∧ decode prog_1_method_54_code 17 = .ok (.return_, 1) := by decide +kernel
def T_R_needOperation : TT := [(0, o_ild 1 1), (1, o_if_lt 9 4), (4, o_ild 1 5), (5, o_push (.int (iI (4))) 6), (6, o_icmp_le 17 9), (9, o_throw "java/lang/IllegalArgumentException"), (17, o_vret)]
theorem k_R_needOperation : ∀ x ∈ T_R_needOperation, SO M_R_needOperation x.1 x.2 := by
  obtain ⟨h0, h1, h4, h5, h6, h9, h12, h13, h16, h17⟩ := e0_R_needOperation
  refine ac (s_ildn (M := M_R_needOperation) (pc := 0) (k := 1) h0) ?_
  refine ac (s_if_lt (M := M_R_needOperation) (pc := 1) h1 (by decide)) ?_
  refine ac (s_ildn (M := M_R_needOperation) (pc := 4) (k := 1) h4) ?_
  refine ac (s_iconst (M := M_R_needOperation) (pc := 5) h5 rfl) ?_
  refine ac (s_icmp_le (M := M_R_needOperation) (pc := 6) h6 (by decide)) ?_
  refine ac (s_throw (M := M_R_needOperation) (pc := 9) (tz_R rfl) h9 h12 h13 h16 (by decide +kernel) thr_IllegalArgumentException) ?_
  refine ac (s_vret (M := M_R_needOperation) (pc := 17) h17 rfl) ?_
  exact ac_nil
theorem e0_R_divides : decode prog_1_method_55_code 0 = .ok (.iload_n 0, 1) ∧ decode prog_1_method_55_code 1 = .ok (.iconst 3, 1) ∧ decode prog_1_method_55_code 2 = .ok (.if_icmp .eq 8, 3) ∧ decode prog_1_method_55_code 5 = .ok (.iload_n 0, 1) ∧ decode prog_1_method_55_code 6 = .ok (.iconst 4, 1) ∧ decode prog_1_method_55_code 7 = .ok (.if_icmp .ne 7, 3) ∧ decode prog_1_method_55_code 10 = .ok (.iconst 1, 1) ∧ decode prog_1_method_55_code 11 = .ok (.goto 4, 3) ∧ decode prog_1_method_55_code 14 = .ok (.iconst 0, 1) ∧ decode prog_1_method_55_code 15 = .ok (.ireturn, 1) := by decide +kernel
def T_R_divides : TT := [(0, o_ild 0 1), (1, o_push (.int (iI (3))) 2), (2, o_icmp_eq 10 5), (5, o_ild 0 6), (6, o_push (.int (iI (4))) 7), (7, o_icmp_ne 14 10), (10, o_push (.int (iI (1))) 11), (11, o_goto 15), (14, o_push (.int (iI (0))) 15), (15, o_zret)]
theorem k_R_divides : ∀ x ∈ T_R_divides, SO M_R_divides x.1 x.2 := by
  obtain ⟨h0, h1, h2, h5, h6, h7, h10, h11, h14, h15⟩ := e0_R_divides
  refine ac (s_ildn (M := M_R_divides) (pc := 0) (k := 0) h0) ?_
  refine ac (s_iconst (M := M_R_divides) (pc := 1) h1 rfl) ?_
  refine ac (s_icmp_eq (M := M_R_divides) (pc := 2) h2 (by decide)) ?_
  refine ac (s_ildn (M := M_R_divides) (pc := 5) (k := 0) h5) ?_
  refine ac (s_iconst (M := M_R_divides) (pc := 6) h6 rfl) ?_
  refine ac (s_icmp_ne (M := M_R_divides) (pc := 7) h7 (by decide)) ?_
  refine ac (s_iconst (M := M_R_divides) (pc := 10) h10 rfl) ?_
  refine ac (s_goto (M := M_R_divides) (pc := 11) h11 (by decide)) ?_
  refine ac (s_iconst (M := M_R_divides) (pc := 14) h14 rfl) ?_
  refine ac (s_zret (M := M_R_divides) (pc := 15) h15 rfl) ?_
  exact ac_nil
theorem e0_R_exactOf : decode prog_1_method_59_code 0 = .ok (.iload_n 0, 1) ∧ decode prog_1_method_59_code 1 = .ok (.tableswitch 49 0 3 #[31, 35, 39, 43], 31) ∧ decode prog_1_method_59_code 32 = .ok (.lload_n 1, 1) ∧ decode prog_1_method_59_code 33 = .ok (.lload_n 3, 1) ∧ decode prog_1_method_59_code 34 = .ok (.ladd, 1) ∧ decode prog_1_method_59_code 35 = .ok (.lreturn, 1) ∧ decode prog_1_method_59_code 36 = .ok (.lload_n 1, 1) ∧ decode prog_1_method_59_code 37 = .ok (.lload_n 3, 1) ∧ decode prog_1_method_59_code 38 = .ok (.lsub, 1) ∧ decode prog_1_method_59_code 39 = .ok (.lreturn, 1) ∧ decode prog_1_method_59_code 40 = .ok (.lload_n 1, 1) ∧ decode prog_1_method_59_code 41 = .ok (.lload_n 3, 1) := by decide +kernel
theorem e1_R_exactOf : decode prog_1_method_59_code 42 = .ok (.lmul, 1) ∧ decode prog_1_method_59_code 43 = .ok (.lreturn, 1) ∧ decode prog_1_method_59_code 44 = .ok (.lload_n 1, 1) ∧ decode prog_1_method_59_code 45 = .ok (.lload_n 3, 1) ∧ decode prog_1_method_59_code 46 = .ok (.invokestatic 195, 3) ∧ decode prog_1_method_59_code 49 = .ok (.lreturn, 1) ∧ decode prog_1_method_59_code 50 = .ok (.lload_n 1, 1) ∧ decode prog_1_method_59_code 51 = .ok (.lload_n 3, 1) ∧ decode prog_1_method_59_code 52 = .ok (.lload_n 1, 1) ∧ decode prog_1_method_59_code 53 = .ok (.lload_n 3, 1) ∧ decode prog_1_method_59_code 54 = .ok (.invokestatic 195, 3) ∧ decode prog_1_method_59_code 57 = .ok (.lmul, 1) := by decide +kernel
theorem e2_R_exactOf : decode prog_1_method_59_code 58 = .ok (.lsub, 1) ∧ decode prog_1_method_59_code 59 = .ok (.lreturn, 1) := by decide +kernel
def T_R_exactOf : TT := [(0, o_ild 0 1), (1, o_tsw 0 [32, 36, 40, 44] 50), (32, o_lld 1 33), (33, o_lld 3 34), (34, o_ladd 35), (35, o_lret), (36, o_lld 1 37), (37, o_lld 3 38), (38, o_lsub 39), (39, o_lret), (40, o_lld 1 41), (41, o_lld 3 42), (42, o_lmul 43), (43, o_lret), (44, o_lld 1 45), (45, o_lld 3 46), (46, o_call M_R_floorQuotient 2 49), (49, o_lret), (50, o_lld 1 51), (51, o_lld 3 52), (52, o_lld 1 53), (53, o_lld 3 54), (54, o_call M_R_floorQuotient 2 57), (57, o_lmul 58), (58, o_lsub 59), (59, o_lret)]
theorem k_R_exactOf : ∀ x ∈ T_R_exactOf, SO M_R_exactOf x.1 x.2 := by
  obtain ⟨h0, h1, h32, h33, h34, h35, h36, h37, h38, h39, h40, h41⟩ := e0_R_exactOf
  obtain ⟨h42, h43, h44, h45, h46, h49, h50, h51, h52, h53, h54, h57⟩ := e1_R_exactOf
  obtain ⟨h58, h59⟩ := e2_R_exactOf
  refine ac (s_ildn (M := M_R_exactOf) (pc := 0) (k := 0) h0) ?_
  refine ac (s_tsw (M := M_R_exactOf) (pc := 1) h1 (by decide) (by decide) (sw_all _ _ (by decide))) ?_
  refine ac (s_lldn (M := M_R_exactOf) (pc := 32) (k := 1) h32) ?_
  refine ac (s_lldn (M := M_R_exactOf) (pc := 33) (k := 3) h33) ?_
  refine ac (s_ladd (M := M_R_exactOf) (pc := 34) h34) ?_
  refine ac (s_lret (M := M_R_exactOf) (pc := 35) h35 rfl) ?_
  refine ac (s_lldn (M := M_R_exactOf) (pc := 36) (k := 1) h36) ?_
  refine ac (s_lldn (M := M_R_exactOf) (pc := 37) (k := 3) h37) ?_
  refine ac (s_lsub (M := M_R_exactOf) (pc := 38) h38) ?_
  refine ac (s_lret (M := M_R_exactOf) (pc := 39) h39 rfl) ?_
  refine ac (s_lldn (M := M_R_exactOf) (pc := 40) (k := 1) h40) ?_
  refine ac (s_lldn (M := M_R_exactOf) (pc := 41) (k := 3) h41) ?_
  refine ac (s_lmul (M := M_R_exactOf) (pc := 42) h42) ?_
  refine ac (s_lret (M := M_R_exactOf) (pc := 43) h43 rfl) ?_
  refine ac (s_lldn (M := M_R_exactOf) (pc := 44) (k := 1) h44) ?_
  refine ac (s_lldn (M := M_R_exactOf) (pc := 45) (k := 3) h45) ?_
  refine ac (s_callS (M := M_R_exactOf) (pc := 46) (tz_R rfl) h46 q_R_floorQuotient wd1160 wd267) ?_
  refine ac (s_lret (M := M_R_exactOf) (pc := 49) h49 rfl) ?_
  refine ac (s_lldn (M := M_R_exactOf) (pc := 50) (k := 1) h50) ?_
  refine ac (s_lldn (M := M_R_exactOf) (pc := 51) (k := 3) h51) ?_
  refine ac (s_lldn (M := M_R_exactOf) (pc := 52) (k := 1) h52) ?_
  refine ac (s_lldn (M := M_R_exactOf) (pc := 53) (k := 3) h53) ?_
  refine ac (s_callS (M := M_R_exactOf) (pc := 54) (tz_R rfl) h54 q_R_floorQuotient wd1160 wd267) ?_
  refine ac (s_lmul (M := M_R_exactOf) (pc := 57) h57) ?_
  refine ac (s_lsub (M := M_R_exactOf) (pc := 58) h58) ?_
  refine ac (s_lret (M := M_R_exactOf) (pc := 59) h59 rfl) ?_
  exact ac_nil
theorem e0_R_exact : decode prog_1_method_25_code 0 = .ok (.aload_n 0, 1) ∧ decode prog_1_method_25_code 1 = .ok (.iload_n 1, 1) ∧ decode prog_1_method_25_code 2 = .ok (.invokevirtual 227, 3) ∧ decode prog_1_method_25_code 5 = .ok (.aload_n 0, 1) ∧ decode prog_1_method_25_code 6 = .ok (.iload_n 2, 1) ∧ decode prog_1_method_25_code 7 = .ok (.invokevirtual 178, 3) ∧ decode prog_1_method_25_code 10 = .ok (.aload_n 0, 1) ∧ decode prog_1_method_25_code 11 = .ok (.iload_n 3, 1) ∧ decode prog_1_method_25_code 12 = .ok (.invokevirtual 178, 3) ∧ decode prog_1_method_25_code 15 = .ok (.iload_n 1, 1) ∧ decode prog_1_method_25_code 16 = .ok (.invokestatic 230, 3) ∧ decode prog_1_method_25_code 19 = .ok (.ifCond .eq 24, 3) := by decide +kernel
theorem e1_R_exact : decode prog_1_method_25_code 22 = .ok (.aload_n 0, 1) ∧ decode prog_1_method_25_code 23 = .ok (.getfield 16, 3) ∧ decode prog_1_method_25_code 26 = .ok (.iload_n 3, 1) ∧ decode prog_1_method_25_code 27 = .ok (.invokevirtual 202, 3) ∧ decode prog_1_method_25_code 30 = .ok (.lconst 0, 1) ∧ decode prog_1_method_25_code 31 = .ok (.lcmp, 1) ∧ decode prog_1_method_25_code 32 = .ok (.ifCond .ne 11, 3) ∧ decode prog_1_method_25_code 35 = .ok (.new 233, 3) ∧ decode prog_1_method_25_code 38 = .ok (.dup, 1) ∧ decode prog_1_method_25_code 39 = .ok (.invokespecial 235, 3) ∧ decode prog_1_method_25_code 42 = .ok (.athrow, 1) ∧ decode prog_1_method_25_code 43 = .ok (.iload_n 1, 1) := by decide +kernel
theorem e2_R_exact : decode prog_1_method_25_code 44 = .ok (.aload_n 0, 1) ∧ decode prog_1_method_25_code 45 = .ok (.getfield 16, 3) ∧ decode prog_1_method_25_code 48 = .ok (.iload_n 2, 1) ∧ decode prog_1_method_25_code 49 = .ok (.invokevirtual 202, 3) ∧ decode prog_1_method_25_code 52 = .ok (.aload_n 0, 1) ∧ decode prog_1_method_25_code 53 = .ok (.getfield 16, 3) ∧ decode prog_1_method_25_code 56 = .ok (.iload_n 3, 1) ∧ decode prog_1_method_25_code 57 = .ok (.invokevirtual 202, 3) ∧ decode prog_1_method_25_code 60 = .ok (.invokestatic 236, 3) ∧ decode prog_1_method_25_code 63 = .ok (.lreturn, 1) := by decide +kernel
def T_R_exact : TT := [(0, o_ald 0 1), (1, o_ild 1 2), (2, o_alt (o_callV M_R_needOperation 0 2 5) (o_callVB M_R_needOperation 0 2 1 6 5)), (5, o_ald 0 6), (6, o_ild 2 7), (7, o_alt (o_callV M_R_needRegister 0 2 10) (o_callVB M_R_needRegister 0 2 1 6 10)), (10, o_ald 0 11), (11, o_ild 3 12), (12, o_alt (o_callV M_R_needRegister 0 2 15) (o_callVB M_R_needRegister 0 2 1 6 15)), (15, o_ild 1 16), (16, o_call M_R_divides 1 19), (19, o_if_eq 43 22), (22, o_ald 0 23), (23, o_get 0 2 26), (26, o_ild 3 27), (27, o_callV M_Ml_numberAt 1 2 30), (30, o_push (.long (lI 0)) 31), (31, o_lc_ne 43 35), (35, o_throw "java/lang/IllegalStateException"), (43, o_ild 1 44), (44, o_ald 0 45), (45, o_get 0 2 48), (48, o_ild 2 49), (49, o_callV M_Ml_numberAt 1 2 52), (52, o_ald 0 53), (53, o_get 0 2 56), (56, o_ild 3 57), (57, o_callV M_Ml_numberAt 1 2 60), (60, o_call M_R_exactOf 3 63), (63, o_lret)]
theorem k_R_exact : ∀ x ∈ T_R_exact, SO M_R_exact x.1 x.2 := by
  obtain ⟨h0, h1, h2, h5, h6, h7, h10, h11, h12, h15, h16, h19⟩ := e0_R_exact
  obtain ⟨h22, h23, h26, h27, h30, h31, h32, h35, h38, h39, h42, h43⟩ := e1_R_exact
  obtain ⟨h44, h45, h48, h49, h52, h53, h56, h57, h60, h63⟩ := e2_R_exact
  refine ac (s_aldn (M := M_R_exact) (pc := 0) (k := 0) h0) ?_
  refine ac (s_ildn (M := M_R_exact) (pc := 1) (k := 1) h1) ?_
  refine ac (s_alt (M := M_R_exact) (pc := 2) (s_callV (tz_R rfl) h2 q_R_needOperation wd1168 wd1170 wd18 rfl (T := TX7) (N := 12) rfl) (s_callVB (mc1 := 1) (ms1 := 6) (tz_R rfl) h2 q_R_needOperation wd1168 wd1170 wd18 rfl (T := TX7) (N := 12) rfl)) ?_
  refine ac (s_aldn (M := M_R_exact) (pc := 5) (k := 0) h5) ?_
  refine ac (s_ildn (M := M_R_exact) (pc := 6) (k := 2) h6) ?_
  refine ac (s_alt (M := M_R_exact) (pc := 7) (s_callV (tz_R rfl) h7 q_R_needRegister wd459 wd461 wd3 rfl (T := TX7) (N := 12) rfl) (s_callVB (mc1 := 1) (ms1 := 6) (tz_R rfl) h7 q_R_needRegister wd459 wd461 wd3 rfl (T := TX7) (N := 12) rfl)) ?_
  refine ac (s_aldn (M := M_R_exact) (pc := 10) (k := 0) h10) ?_
  refine ac (s_ildn (M := M_R_exact) (pc := 11) (k := 3) h11) ?_
  refine ac (s_alt (M := M_R_exact) (pc := 12) (s_callV (tz_R rfl) h12 q_R_needRegister wd459 wd461 wd3 rfl (T := TX7) (N := 12) rfl) (s_callVB (mc1 := 1) (ms1 := 6) (tz_R rfl) h12 q_R_needRegister wd459 wd461 wd3 rfl (T := TX7) (N := 12) rfl)) ?_
  refine ac (s_ildn (M := M_R_exact) (pc := 15) (k := 1) h15) ?_
  refine ac (s_callS (M := M_R_exact) (pc := 16) (tz_R rfl) h16 q_R_divides wd1192 wd1177) ?_
  refine ac (s_if_eq (M := M_R_exact) (pc := 19) h19 (by decide)) ?_
  refine ac (s_aldn (M := M_R_exact) (pc := 22) (k := 0) h22) ?_
  refine ac (s_get (M := M_R_exact) (pc := 23) (T := TX7) (N := 12) h23 rfl in_X7 (by decide) wd287) ?_
  refine ac (s_ildn (M := M_R_exact) (pc := 26) (k := 3) h26) ?_
  refine ac (s_callV (M := M_R_exact) (pc := 27) (tz_R rfl) h27 q_Ml_numberAt wd473 wd335 wd336 rfl (T := TX1) (N := 4) rfl) ?_
  refine ac (s_lconst (M := M_R_exact) (pc := 30) h30 (by decide)) ?_
  refine ac (s_lc_ne (M := M_R_exact) (pc := 31) h31 h32 (by decide)) ?_
  refine ac (s_throw (M := M_R_exact) (pc := 35) (tz_R rfl) h35 h38 h39 h42 (by decide +kernel) thr_IllegalStateException) ?_
  refine ac (s_ildn (M := M_R_exact) (pc := 43) (k := 1) h43) ?_
  refine ac (s_aldn (M := M_R_exact) (pc := 44) (k := 0) h44) ?_
  refine ac (s_get (M := M_R_exact) (pc := 45) (T := TX7) (N := 12) h45 rfl in_X7 (by decide) wd287) ?_
  refine ac (s_ildn (M := M_R_exact) (pc := 48) (k := 2) h48) ?_
  refine ac (s_callV (M := M_R_exact) (pc := 49) (tz_R rfl) h49 q_Ml_numberAt wd473 wd335 wd336 rfl (T := TX1) (N := 4) rfl) ?_
  refine ac (s_aldn (M := M_R_exact) (pc := 52) (k := 0) h52) ?_
  refine ac (s_get (M := M_R_exact) (pc := 53) (T := TX7) (N := 12) h53 rfl in_X7 (by decide) wd287) ?_
  refine ac (s_ildn (M := M_R_exact) (pc := 56) (k := 3) h56) ?_
  refine ac (s_callV (M := M_R_exact) (pc := 57) (tz_R rfl) h57 q_Ml_numberAt wd473 wd335 wd336 rfl (T := TX1) (N := 4) rfl) ?_
  refine ac (s_callS (M := M_R_exact) (pc := 60) (tz_R rfl) h60 q_R_exactOf wd1186 wd1180) ?_
  refine ac (s_lret (M := M_R_exact) (pc := 63) h63 rfl) ?_
  exact ac_nil
theorem e0_R_operate : decode prog_1_method_36_code 0 = .ok (.aload_n 0, 1) ∧ decode prog_1_method_36_code 1 = .ok (.iload_n 1, 1) ∧ decode prog_1_method_36_code 2 = .ok (.invokevirtual 227, 3) ∧ decode prog_1_method_36_code 5 = .ok (.aload_n 0, 1) ∧ decode prog_1_method_36_code 6 = .ok (.iload_n 2, 1) ∧ decode prog_1_method_36_code 7 = .ok (.invokevirtual 178, 3) ∧ decode prog_1_method_36_code 10 = .ok (.aload_n 0, 1) ∧ decode prog_1_method_36_code 11 = .ok (.iload_n 3, 1) ∧ decode prog_1_method_36_code 12 = .ok (.invokevirtual 178, 3) ∧ decode prog_1_method_36_code 15 = .ok (.aload_n 0, 1) ∧ decode prog_1_method_36_code 16 = .ok (.iload 4, 2) ∧ decode prog_1_method_36_code 18 = .ok (.invokevirtual 178, 3) := by decide +kernel
theorem e1_R_operate : decode prog_1_method_36_code 21 = .ok (.aload_n 0, 1) ∧ decode prog_1_method_36_code 22 = .ok (.getfield 29, 3) ∧ decode prog_1_method_36_code 25 = .ok (.aload_n 0, 1) ∧ decode prog_1_method_36_code 26 = .ok (.getfield 16, 3) ∧ decode prog_1_method_36_code 29 = .ok (.invokevirtual 116, 3) ∧ decode prog_1_method_36_code 32 = .ok (.aload_n 0, 1) ∧ decode prog_1_method_36_code 33 = .ok (.getfield 29, 3) ∧ decode prog_1_method_36_code 36 = .ok (.aload_n 0, 1) ∧ decode prog_1_method_36_code 37 = .ok (.getfield 16, 3) ∧ decode prog_1_method_36_code 40 = .ok (.iload_n 1, 1) ∧ decode prog_1_method_36_code 41 = .ok (.iload_n 2, 1) ∧ decode prog_1_method_36_code 42 = .ok (.iload_n 3, 1) := by decide +kernel
theorem e2_R_operate : decode prog_1_method_36_code 43 = .ok (.iload 4, 2) ∧ decode prog_1_method_36_code 45 = .ok (.invokevirtual 281, 3) ∧ decode prog_1_method_36_code 48 = .ok (.invokevirtual 274, 3) ∧ decode prog_1_method_36_code 51 = .ok (.ireturn, 1) := by decide +kernel
def T_R_operate : TT := [(0, o_ald 0 1), (1, o_ild 1 2), (2, o_alt (o_callV M_R_needOperation 0 2 5) (o_callVB M_R_needOperation 0 2 1 6 5)), (5, o_ald 0 6), (6, o_ild 2 7), (7, o_alt (o_callV M_R_needRegister 0 2 10) (o_callVB M_R_needRegister 0 2 1 6 10)), (10, o_ald 0 11), (11, o_ild 3 12), (12, o_alt (o_callV M_R_needRegister 0 2 15) (o_callVB M_R_needRegister 0 2 1 6 15)), (15, o_ald 0 16), (16, o_ild 4 18), (18, o_alt (o_callV M_R_needRegister 0 2 21) (o_callVB M_R_needRegister 0 2 1 6 21)), (21, o_ald 0 22), (22, o_get 0 6 25), (25, o_ald 0 26), (26, o_get 0 2 29), (29, o_callV M_Ch_prepare 3 2 32), (32, o_ald 0 33), (33, o_get 0 6 36), (36, o_ald 0 37), (37, o_get 0 2 40), (40, o_ild 1 41), (41, o_ild 2 42), (42, o_ild 3 43), (43, o_ild 4 45), (45, o_callV M_Ml_actOperate 1 5 48), (48, o_callV M_Ch_keepIfDone 3 2 51), (51, o_iret)]
theorem k_R_operate : ∀ x ∈ T_R_operate, SO M_R_operate x.1 x.2 := by
  obtain ⟨h0, h1, h2, h5, h6, h7, h10, h11, h12, h15, h16, h18⟩ := e0_R_operate
  obtain ⟨h21, h22, h25, h26, h29, h32, h33, h36, h37, h40, h41, h42⟩ := e1_R_operate
  obtain ⟨h43, h45, h48, h51⟩ := e2_R_operate
  refine ac (s_aldn (M := M_R_operate) (pc := 0) (k := 0) h0) ?_
  refine ac (s_ildn (M := M_R_operate) (pc := 1) (k := 1) h1) ?_
  refine ac (s_alt (M := M_R_operate) (pc := 2) (s_callV (tz_R rfl) h2 q_R_needOperation wd1168 wd1170 wd18 rfl (T := TX7) (N := 12) rfl) (s_callVB (mc1 := 1) (ms1 := 6) (tz_R rfl) h2 q_R_needOperation wd1168 wd1170 wd18 rfl (T := TX7) (N := 12) rfl)) ?_
  refine ac (s_aldn (M := M_R_operate) (pc := 5) (k := 0) h5) ?_
  refine ac (s_ildn (M := M_R_operate) (pc := 6) (k := 2) h6) ?_
  refine ac (s_alt (M := M_R_operate) (pc := 7) (s_callV (tz_R rfl) h7 q_R_needRegister wd459 wd461 wd3 rfl (T := TX7) (N := 12) rfl) (s_callVB (mc1 := 1) (ms1 := 6) (tz_R rfl) h7 q_R_needRegister wd459 wd461 wd3 rfl (T := TX7) (N := 12) rfl)) ?_
  refine ac (s_aldn (M := M_R_operate) (pc := 10) (k := 0) h10) ?_
  refine ac (s_ildn (M := M_R_operate) (pc := 11) (k := 3) h11) ?_
  refine ac (s_alt (M := M_R_operate) (pc := 12) (s_callV (tz_R rfl) h12 q_R_needRegister wd459 wd461 wd3 rfl (T := TX7) (N := 12) rfl) (s_callVB (mc1 := 1) (ms1 := 6) (tz_R rfl) h12 q_R_needRegister wd459 wd461 wd3 rfl (T := TX7) (N := 12) rfl)) ?_
  refine ac (s_aldn (M := M_R_operate) (pc := 15) (k := 0) h15) ?_
  refine ac (s_ild (M := M_R_operate) (pc := 16) h16) ?_
  refine ac (s_alt (M := M_R_operate) (pc := 18) (s_callV (tz_R rfl) h18 q_R_needRegister wd459 wd461 wd3 rfl (T := TX7) (N := 12) rfl) (s_callVB (mc1 := 1) (ms1 := 6) (tz_R rfl) h18 q_R_needRegister wd459 wd461 wd3 rfl (T := TX7) (N := 12) rfl)) ?_
  refine ac (s_aldn (M := M_R_operate) (pc := 21) (k := 0) h21) ?_
  refine ac (s_get (M := M_R_operate) (pc := 22) (T := TX7) (N := 12) h22 rfl in_X7 (by decide) wd291) ?_
  refine ac (s_aldn (M := M_R_operate) (pc := 25) (k := 0) h25) ?_
  refine ac (s_get (M := M_R_operate) (pc := 26) (T := TX7) (N := 12) h26 rfl in_X7 (by decide) wd287) ?_
  refine ac (s_callV (M := M_R_operate) (pc := 29) (tz_R rfl) h29 q_Ch_prepare wd559 wd560 wd561 rfl (T := TX0) (N := 3) rfl) ?_
  refine ac (s_aldn (M := M_R_operate) (pc := 32) (k := 0) h32) ?_
  refine ac (s_get (M := M_R_operate) (pc := 33) (T := TX7) (N := 12) h33 rfl in_X7 (by decide) wd291) ?_
  refine ac (s_aldn (M := M_R_operate) (pc := 36) (k := 0) h36) ?_
  refine ac (s_get (M := M_R_operate) (pc := 37) (T := TX7) (N := 12) h37 rfl in_X7 (by decide) wd287) ?_
  refine ac (s_ildn (M := M_R_operate) (pc := 40) (k := 1) h40) ?_
  refine ac (s_ildn (M := M_R_operate) (pc := 41) (k := 2) h41) ?_
  refine ac (s_ildn (M := M_R_operate) (pc := 42) (k := 3) h42) ?_
  refine ac (s_ild (M := M_R_operate) (pc := 43) h43) ?_
  refine ac (s_callV (M := M_R_operate) (pc := 45) (tz_R rfl) h45 q_Ml_actOperate wd1219 wd1220 wd1221 rfl (T := TX1) (N := 4) rfl) ?_
  refine ac (s_callV (M := M_R_operate) (pc := 48) (tz_R rfl) h48 q_Ch_keepIfDone wd603 wd604 wd605 rfl (T := TX0) (N := 3) rfl) ?_
  refine ac (s_iret (M := M_R_operate) (pc := 51) h51 rfl) ?_
  exact ac_nil
theorem e0_R_scale : decode prog_1_method_37_code 0 = .ok (.aload_n 0, 1) ∧ decode prog_1_method_37_code 1 = .ok (.iload_n 1, 1) ∧ decode prog_1_method_37_code 2 = .ok (.invokevirtual 178, 3) ∧ decode prog_1_method_37_code 5 = .ok (.aload_n 0, 1) ∧ decode prog_1_method_37_code 6 = .ok (.iload_n 2, 1) ∧ decode prog_1_method_37_code 7 = .ok (.invokevirtual 164, 3) ∧ decode prog_1_method_37_code 10 = .ok (.aload_n 0, 1) ∧ decode prog_1_method_37_code 11 = .ok (.getfield 29, 3) ∧ decode prog_1_method_37_code 14 = .ok (.aload_n 0, 1) ∧ decode prog_1_method_37_code 15 = .ok (.getfield 16, 3) ∧ decode prog_1_method_37_code 18 = .ok (.invokevirtual 116, 3) ∧ decode prog_1_method_37_code 21 = .ok (.aload_n 0, 1) := by decide +kernel
theorem e1_R_scale : decode prog_1_method_37_code 22 = .ok (.getfield 29, 3) ∧ decode prog_1_method_37_code 25 = .ok (.aload_n 0, 1) ∧ decode prog_1_method_37_code 26 = .ok (.getfield 16, 3) ∧ decode prog_1_method_37_code 29 = .ok (.iload_n 1, 1) ∧ decode prog_1_method_37_code 30 = .ok (.iload_n 2, 1) ∧ decode prog_1_method_37_code 31 = .ok (.invokevirtual 285, 3) ∧ decode prog_1_method_37_code 34 = .ok (.invokevirtual 274, 3) ∧ decode prog_1_method_37_code 37 = .ok (.ireturn, 1) := by decide +kernel
def T_R_scale : TT := [(0, o_ald 0 1), (1, o_ild 1 2), (2, o_alt (o_callV M_R_needRegister 0 2 5) (o_callVB M_R_needRegister 0 2 1 6 5)), (5, o_ald 0 6), (6, o_ild 2 7), (7, o_alt (o_callV M_R_needModulus 0 2 10) (o_callVB M_R_needModulus 0 2 1 6 10)), (10, o_ald 0 11), (11, o_get 0 6 14), (14, o_ald 0 15), (15, o_get 0 2 18), (18, o_callV M_Ch_prepare 3 2 21), (21, o_ald 0 22), (22, o_get 0 6 25), (25, o_ald 0 26), (26, o_get 0 2 29), (29, o_ild 1 30), (30, o_ild 2 31), (31, o_callV M_Ml_actScale 1 3 34), (34, o_callV M_Ch_keepIfDone 3 2 37), (37, o_iret)]
theorem k_R_scale : ∀ x ∈ T_R_scale, SO M_R_scale x.1 x.2 := by
  obtain ⟨h0, h1, h2, h5, h6, h7, h10, h11, h14, h15, h18, h21⟩ := e0_R_scale
  obtain ⟨h22, h25, h26, h29, h30, h31, h34, h37⟩ := e1_R_scale
  refine ac (s_aldn (M := M_R_scale) (pc := 0) (k := 0) h0) ?_
  refine ac (s_ildn (M := M_R_scale) (pc := 1) (k := 1) h1) ?_
  refine ac (s_alt (M := M_R_scale) (pc := 2) (s_callV (tz_R rfl) h2 q_R_needRegister wd459 wd461 wd3 rfl (T := TX7) (N := 12) rfl) (s_callVB (mc1 := 1) (ms1 := 6) (tz_R rfl) h2 q_R_needRegister wd459 wd461 wd3 rfl (T := TX7) (N := 12) rfl)) ?_
  refine ac (s_aldn (M := M_R_scale) (pc := 5) (k := 0) h5) ?_
  refine ac (s_ildn (M := M_R_scale) (pc := 6) (k := 2) h6) ?_
  refine ac (s_alt (M := M_R_scale) (pc := 7) (s_callV (tz_R rfl) h7 q_R_needModulus wd435 wd437 wd2 rfl (T := TX7) (N := 12) rfl) (s_callVB (mc1 := 1) (ms1 := 6) (tz_R rfl) h7 q_R_needModulus wd435 wd437 wd2 rfl (T := TX7) (N := 12) rfl)) ?_
  refine ac (s_aldn (M := M_R_scale) (pc := 10) (k := 0) h10) ?_
  refine ac (s_get (M := M_R_scale) (pc := 11) (T := TX7) (N := 12) h11 rfl in_X7 (by decide) wd291) ?_
  refine ac (s_aldn (M := M_R_scale) (pc := 14) (k := 0) h14) ?_
  refine ac (s_get (M := M_R_scale) (pc := 15) (T := TX7) (N := 12) h15 rfl in_X7 (by decide) wd287) ?_
  refine ac (s_callV (M := M_R_scale) (pc := 18) (tz_R rfl) h18 q_Ch_prepare wd559 wd560 wd561 rfl (T := TX0) (N := 3) rfl) ?_
  refine ac (s_aldn (M := M_R_scale) (pc := 21) (k := 0) h21) ?_
  refine ac (s_get (M := M_R_scale) (pc := 22) (T := TX7) (N := 12) h22 rfl in_X7 (by decide) wd291) ?_
  refine ac (s_aldn (M := M_R_scale) (pc := 25) (k := 0) h25) ?_
  refine ac (s_get (M := M_R_scale) (pc := 26) (T := TX7) (N := 12) h26 rfl in_X7 (by decide) wd287) ?_
  refine ac (s_ildn (M := M_R_scale) (pc := 29) (k := 1) h29) ?_
  refine ac (s_ildn (M := M_R_scale) (pc := 30) (k := 2) h30) ?_
  refine ac (s_callV (M := M_R_scale) (pc := 31) (tz_R rfl) h31 q_Ml_actScale wd1232 wd1233 wd1234 rfl (T := TX1) (N := 4) rfl) ?_
  refine ac (s_callV (M := M_R_scale) (pc := 34) (tz_R rfl) h34 q_Ch_keepIfDone wd603 wd604 wd605 rfl (T := TX0) (N := 3) rfl) ?_
  refine ac (s_iret (M := M_R_scale) (pc := 37) h37 rfl) ?_
  exact ac_nil
theorem e0_R_nextModulus : decode prog_1_method_29_code 0 = .ok (.iconst 2, 1) ∧ decode prog_1_method_29_code 1 = .ok (.istore_n 1, 1) ∧ decode prog_1_method_29_code 2 = .ok (.iload_n 1, 1) ∧ decode prog_1_method_29_code 3 = .ok (.bipush 97, 2) ∧ decode prog_1_method_29_code 5 = .ok (.if_icmp .gt 25, 3) ∧ decode prog_1_method_29_code 8 = .ok (.aload_n 0, 1) ∧ decode prog_1_method_29_code 9 = .ok (.getfield 16, 3) ∧ decode prog_1_method_29_code 12 = .ok (.getfield 61, 3) ∧ decode prog_1_method_29_code 15 = .ok (.iload_n 1, 1) ∧ decode prog_1_method_29_code 16 = .ok (.invokevirtual 258, 3) ∧ decode prog_1_method_29_code 19 = .ok (.ifCond .eq 5, 3) ∧ decode prog_1_method_29_code 22 = .ok (.iload_n 1, 1) := by decide +kernel
theorem e1_R_nextModulus : decode prog_1_method_29_code 23 = .ok (.ireturn, 1) ∧ decode prog_1_method_29_code 24 = .ok (.iinc 1 1, 3) ∧ decode prog_1_method_29_code 27 = .ok (.goto (-25), 3) ∧ decode prog_1_method_29_code 30 = .ok (.iconst (-1), 1) ∧ decode prog_1_method_29_code 31 = .ok (.ireturn, 1) := by decide +kernel
def T_R_nextModulus : TT := [(0, o_push (.int (iI (2))) 1), (1, o_ist 1 2), (2, o_ild 1 3), (3, o_push (.int (iI (97))) 5), (5, o_icmp_gt 30 8), (8, o_ald 0 9), (9, o_get 0 2 12), (12, o_get 1 0 15), (15, o_ild 1 16), (16, o_callV M_Mo_canTake 2 2 19), (19, o_if_eq 24 22), (22, o_ild 1 23), (23, o_iret), (24, o_iinc 1 (iI (1)) 27), (27, o_goto 2), (30, o_push (.int (iI (-1))) 31), (31, o_iret)]
theorem k_R_nextModulus : ∀ x ∈ T_R_nextModulus, SO M_R_nextModulus x.1 x.2 := by
  obtain ⟨h0, h1, h2, h3, h5, h8, h9, h12, h15, h16, h19, h22⟩ := e0_R_nextModulus
  obtain ⟨h23, h24, h27, h30, h31⟩ := e1_R_nextModulus
  refine ac (s_iconst (M := M_R_nextModulus) (pc := 0) h0 rfl) ?_
  refine ac (s_istn (M := M_R_nextModulus) (pc := 1) (k := 1) h1 (by decide)) ?_
  refine ac (s_ildn (M := M_R_nextModulus) (pc := 2) (k := 1) h2) ?_
  refine ac (s_bipush (M := M_R_nextModulus) (pc := 3) h3 (by decide)) ?_
  refine ac (s_icmp_gt (M := M_R_nextModulus) (pc := 5) h5 (by decide)) ?_
  refine ac (s_aldn (M := M_R_nextModulus) (pc := 8) (k := 0) h8) ?_
  refine ac (s_get (M := M_R_nextModulus) (pc := 9) (T := TX7) (N := 12) h9 rfl in_X7 (by decide) wd287) ?_
  refine ac (s_get (M := M_R_nextModulus) (pc := 12) (T := TX1) (N := 4) h12 rfl in_X1 (by decide) wd100) ?_
  refine ac (s_ildn (M := M_R_nextModulus) (pc := 15) (k := 1) h15) ?_
  refine ac (s_callV (M := M_R_nextModulus) (pc := 16) (tz_R rfl) h16 q_Mo_canTake wd1247 wd1248 wd1249 rfl (T := TX2) (N := 6) rfl) ?_
  refine ac (s_if_eq (M := M_R_nextModulus) (pc := 19) h19 (by decide)) ?_
  refine ac (s_ildn (M := M_R_nextModulus) (pc := 22) (k := 1) h22) ?_
  refine ac (s_iret (M := M_R_nextModulus) (pc := 23) h23 rfl) ?_
  refine ac (s_iinc (M := M_R_nextModulus) (pc := 24) h24 rfl (by decide)) ?_
  refine ac (s_goto (M := M_R_nextModulus) (pc := 27) h27 (by decide)) ?_
  refine ac (s_iconst (M := M_R_nextModulus) (pc := 30) h30 rfl) ?_
  refine ac (s_iret (M := M_R_nextModulus) (pc := 31) h31 rfl) ?_
  exact ac_nil
theorem e0_R_grow : decode prog_1_method_40_code 0 = .ok (.iload_n 1, 1) ∧ decode prog_1_method_40_code 1 = .ok (.iconst 2, 1) ∧ decode prog_1_method_40_code 2 = .ok (.if_icmp .lt 9, 3) ∧ decode prog_1_method_40_code 5 = .ok (.iload_n 1, 1) ∧ decode prog_1_method_40_code 6 = .ok (.bipush 97, 2) ∧ decode prog_1_method_40_code 8 = .ok (.if_icmp .le 11, 3) ∧ decode prog_1_method_40_code 11 = .ok (.new 147, 3) ∧ decode prog_1_method_40_code 14 = .ok (.dup, 1) ∧ decode prog_1_method_40_code 15 = .ok (.invokespecial 149, 3) ∧ decode prog_1_method_40_code 18 = .ok (.athrow, 1) ∧ decode prog_1_method_40_code 19 = .ok (.aload_n 0, 1) ∧ decode prog_1_method_40_code 20 = .ok (.getfield 29, 3) := by decide +kernel
theorem e1_R_grow : decode prog_1_method_40_code 23 = .ok (.aload_n 0, 1) ∧ decode prog_1_method_40_code 24 = .ok (.getfield 16, 3) ∧ decode prog_1_method_40_code 27 = .ok (.invokevirtual 116, 3) ∧ decode prog_1_method_40_code 30 = .ok (.aload_n 0, 1) ∧ decode prog_1_method_40_code 31 = .ok (.getfield 29, 3) ∧ decode prog_1_method_40_code 34 = .ok (.aload_n 0, 1) ∧ decode prog_1_method_40_code 35 = .ok (.getfield 16, 3) ∧ decode prog_1_method_40_code 38 = .ok (.iload_n 1, 1) ∧ decode prog_1_method_40_code 39 = .ok (.invokevirtual 294, 3) ∧ decode prog_1_method_40_code 42 = .ok (.invokevirtual 274, 3) ∧ decode prog_1_method_40_code 45 = .ok (.ireturn, 1) := by decide +kernel
def T_R_grow : TT := [(0, o_ild 1 1), (1, o_push (.int (iI (2))) 2), (2, o_icmp_lt 11 5), (5, o_ild 1 6), (6, o_push (.int (iI (97))) 8), (8, o_icmp_le 19 11), (11, o_throw "java/lang/IllegalArgumentException"), (19, o_ald 0 20), (20, o_get 0 6 23), (23, o_ald 0 24), (24, o_get 0 2 27), (27, o_callV M_Ch_prepare 3 2 30), (30, o_ald 0 31), (31, o_get 0 6 34), (34, o_ald 0 35), (35, o_get 0 2 38), (38, o_ild 1 39), (39, o_callV M_Ml_actGrow 1 2 42), (42, o_callV M_Ch_keepIfDone 3 2 45), (45, o_iret)]
theorem k_R_grow : ∀ x ∈ T_R_grow, SO M_R_grow x.1 x.2 := by
  obtain ⟨h0, h1, h2, h5, h6, h8, h11, h14, h15, h18, h19, h20⟩ := e0_R_grow
  obtain ⟨h23, h24, h27, h30, h31, h34, h35, h38, h39, h42, h45⟩ := e1_R_grow
  refine ac (s_ildn (M := M_R_grow) (pc := 0) (k := 1) h0) ?_
  refine ac (s_iconst (M := M_R_grow) (pc := 1) h1 rfl) ?_
  refine ac (s_icmp_lt (M := M_R_grow) (pc := 2) h2 (by decide)) ?_
  refine ac (s_ildn (M := M_R_grow) (pc := 5) (k := 1) h5) ?_
  refine ac (s_bipush (M := M_R_grow) (pc := 6) h6 (by decide)) ?_
  refine ac (s_icmp_le (M := M_R_grow) (pc := 8) h8 (by decide)) ?_
  refine ac (s_throw (M := M_R_grow) (pc := 11) (tz_R rfl) h11 h14 h15 h18 (by decide +kernel) thr_IllegalArgumentException) ?_
  refine ac (s_aldn (M := M_R_grow) (pc := 19) (k := 0) h19) ?_
  refine ac (s_get (M := M_R_grow) (pc := 20) (T := TX7) (N := 12) h20 rfl in_X7 (by decide) wd291) ?_
  refine ac (s_aldn (M := M_R_grow) (pc := 23) (k := 0) h23) ?_
  refine ac (s_get (M := M_R_grow) (pc := 24) (T := TX7) (N := 12) h24 rfl in_X7 (by decide) wd287) ?_
  refine ac (s_callV (M := M_R_grow) (pc := 27) (tz_R rfl) h27 q_Ch_prepare wd559 wd560 wd561 rfl (T := TX0) (N := 3) rfl) ?_
  refine ac (s_aldn (M := M_R_grow) (pc := 30) (k := 0) h30) ?_
  refine ac (s_get (M := M_R_grow) (pc := 31) (T := TX7) (N := 12) h31 rfl in_X7 (by decide) wd291) ?_
  refine ac (s_aldn (M := M_R_grow) (pc := 34) (k := 0) h34) ?_
  refine ac (s_get (M := M_R_grow) (pc := 35) (T := TX7) (N := 12) h35 rfl in_X7 (by decide) wd287) ?_
  refine ac (s_ildn (M := M_R_grow) (pc := 38) (k := 1) h38) ?_
  refine ac (s_callV (M := M_R_grow) (pc := 39) (tz_R rfl) h39 q_Ml_actGrow wd1257 wd1258 wd1259 rfl (T := TX1) (N := 4) rfl) ?_
  refine ac (s_callV (M := M_R_grow) (pc := 42) (tz_R rfl) h42 q_Ch_keepIfDone wd603 wd604 wd605 rfl (T := TX0) (N := 3) rfl) ?_
  refine ac (s_iret (M := M_R_grow) (pc := 45) h45 rfl) ?_
  exact ac_nil
theorem e0_R_spare : decode prog_1_method_30_code 0 = .ok (.iconst 0, 1) ∧ decode prog_1_method_30_code 1 = .ok (.istore_n 1, 1) ∧ decode prog_1_method_30_code 2 = .ok (.iconst 0, 1) ∧ decode prog_1_method_30_code 3 = .ok (.istore_n 2, 1) ∧ decode prog_1_method_30_code 4 = .ok (.iload_n 2, 1) ∧ decode prog_1_method_30_code 5 = .ok (.aload_n 0, 1) ∧ decode prog_1_method_30_code 6 = .ok (.getfield 16, 3) ∧ decode prog_1_method_30_code 9 = .ok (.getfield 61, 3) ∧ decode prog_1_method_30_code 12 = .ok (.getfield 109, 3) ∧ decode prog_1_method_30_code 15 = .ok (.if_icmp .ge 26, 3) ∧ decode prog_1_method_30_code 18 = .ok (.aload_n 0, 1) ∧ decode prog_1_method_30_code 19 = .ok (.getfield 16, 3) := by decide +kernel
theorem e1_R_spare : decode prog_1_method_30_code 22 = .ok (.iload_n 2, 1) ∧ decode prog_1_method_30_code 23 = .ok (.invokevirtual 261, 3) ∧ decode prog_1_method_30_code 26 = .ok (.ifCond .eq 9, 3) ∧ decode prog_1_method_30_code 29 = .ok (.iload_n 1, 1) ∧ decode prog_1_method_30_code 30 = .ok (.iconst 1, 1) ∧ decode prog_1_method_30_code 31 = .ok (.iload_n 2, 1) ∧ decode prog_1_method_30_code 32 = .ok (.ishl, 1) ∧ decode prog_1_method_30_code 33 = .ok (.ior, 1) ∧ decode prog_1_method_30_code 34 = .ok (.istore_n 1, 1) ∧ decode prog_1_method_30_code 35 = .ok (.iinc 2 1, 3) ∧ decode prog_1_method_30_code 38 = .ok (.goto (-34), 3) ∧ decode prog_1_method_30_code 41 = .ok (.iload_n 1, 1) := by decide +kernel
theorem e2_R_spare : decode prog_1_method_30_code 42 = .ok (.ireturn, 1) := by decide +kernel
def T_R_spare : TT := [(0, o_push (.int (iI (0))) 1), (1, o_ist 1 2), (2, o_push (.int (iI (0))) 3), (3, o_ist 2 4), (4, o_ild 2 5), (5, o_ald 0 6), (6, o_get 0 2 9), (9, o_get 1 0 12), (12, o_get 2 2 15), (15, o_icmp_ge 41 18), (18, o_ald 0 19), (19, o_get 0 2 22), (22, o_ild 2 23), (23, o_callV M_Ml_canDrop 1 2 26), (26, o_if_eq 35 29), (29, o_ild 1 30), (30, o_push (.int (iI (1))) 31), (31, o_ild 2 32), (32, o_ishl 33), (33, o_ior 34), (34, o_ist 1 35), (35, o_iinc 2 (iI (1)) 38), (38, o_goto 4), (41, o_ild 1 42), (42, o_iret)]
theorem k_R_spare : ∀ x ∈ T_R_spare, SO M_R_spare x.1 x.2 := by
  obtain ⟨h0, h1, h2, h3, h4, h5, h6, h9, h12, h15, h18, h19⟩ := e0_R_spare
  obtain ⟨h22, h23, h26, h29, h30, h31, h32, h33, h34, h35, h38, h41⟩ := e1_R_spare
  have h42 := e2_R_spare
  refine ac (s_iconst (M := M_R_spare) (pc := 0) h0 rfl) ?_
  refine ac (s_istn (M := M_R_spare) (pc := 1) (k := 1) h1 (by decide)) ?_
  refine ac (s_iconst (M := M_R_spare) (pc := 2) h2 rfl) ?_
  refine ac (s_istn (M := M_R_spare) (pc := 3) (k := 2) h3 (by decide)) ?_
  refine ac (s_ildn (M := M_R_spare) (pc := 4) (k := 2) h4) ?_
  refine ac (s_aldn (M := M_R_spare) (pc := 5) (k := 0) h5) ?_
  refine ac (s_get (M := M_R_spare) (pc := 6) (T := TX7) (N := 12) h6 rfl in_X7 (by decide) wd287) ?_
  refine ac (s_get (M := M_R_spare) (pc := 9) (T := TX1) (N := 4) h9 rfl in_X1 (by decide) wd100) ?_
  refine ac (s_get (M := M_R_spare) (pc := 12) (T := TX2) (N := 6) h12 rfl in_X2 (by decide) wd74) ?_
  refine ac (s_icmp_ge (M := M_R_spare) (pc := 15) h15 (by decide)) ?_
  refine ac (s_aldn (M := M_R_spare) (pc := 18) (k := 0) h18) ?_
  refine ac (s_get (M := M_R_spare) (pc := 19) (T := TX7) (N := 12) h19 rfl in_X7 (by decide) wd287) ?_
  refine ac (s_ildn (M := M_R_spare) (pc := 22) (k := 2) h22) ?_
  refine ac (s_callV (M := M_R_spare) (pc := 23) (tz_R rfl) h23 q_Ml_canDrop wd1267 wd1268 wd1269 rfl (T := TX1) (N := 4) rfl) ?_
  refine ac (s_if_eq (M := M_R_spare) (pc := 26) h26 (by decide)) ?_
  refine ac (s_ildn (M := M_R_spare) (pc := 29) (k := 1) h29) ?_
  refine ac (s_iconst (M := M_R_spare) (pc := 30) h30 rfl) ?_
  refine ac (s_ildn (M := M_R_spare) (pc := 31) (k := 2) h31) ?_
  refine ac (s_ishl (M := M_R_spare) (pc := 32) h32) ?_
  refine ac (s_ior (M := M_R_spare) (pc := 33) h33) ?_
  refine ac (s_istn (M := M_R_spare) (pc := 34) (k := 1) h34 (by decide)) ?_
  refine ac (s_iinc (M := M_R_spare) (pc := 35) h35 rfl (by decide)) ?_
  refine ac (s_goto (M := M_R_spare) (pc := 38) h38 (by decide)) ?_
  refine ac (s_ildn (M := M_R_spare) (pc := 41) (k := 1) h41) ?_
  refine ac (s_iret (M := M_R_spare) (pc := 42) h42 rfl) ?_
  exact ac_nil
theorem e0_R_drop : decode prog_1_method_41_code 0 = .ok (.aload_n 0, 1) ∧ decode prog_1_method_41_code 1 = .ok (.iload_n 1, 1) ∧ decode prog_1_method_41_code 2 = .ok (.invokevirtual 164, 3) ∧ decode prog_1_method_41_code 5 = .ok (.aload_n 0, 1) ∧ decode prog_1_method_41_code 6 = .ok (.getfield 29, 3) ∧ decode prog_1_method_41_code 9 = .ok (.aload_n 0, 1) ∧ decode prog_1_method_41_code 10 = .ok (.getfield 16, 3) ∧ decode prog_1_method_41_code 13 = .ok (.invokevirtual 116, 3) ∧ decode prog_1_method_41_code 16 = .ok (.aload_n 0, 1) ∧ decode prog_1_method_41_code 17 = .ok (.getfield 29, 3) ∧ decode prog_1_method_41_code 20 = .ok (.aload_n 0, 1) ∧ decode prog_1_method_41_code 21 = .ok (.getfield 16, 3) := by decide +kernel
theorem e1_R_drop : decode prog_1_method_41_code 24 = .ok (.iload_n 1, 1) ∧ decode prog_1_method_41_code 25 = .ok (.invokevirtual 297, 3) ∧ decode prog_1_method_41_code 28 = .ok (.invokevirtual 274, 3) ∧ decode prog_1_method_41_code 31 = .ok (.ireturn, 1) := by decide +kernel
def T_R_drop : TT := [(0, o_ald 0 1), (1, o_ild 1 2), (2, o_alt (o_callV M_R_needModulus 0 2 5) (o_callVB M_R_needModulus 0 2 1 6 5)), (5, o_ald 0 6), (6, o_get 0 6 9), (9, o_ald 0 10), (10, o_get 0 2 13), (13, o_callV M_Ch_prepare 3 2 16), (16, o_ald 0 17), (17, o_get 0 6 20), (20, o_ald 0 21), (21, o_get 0 2 24), (24, o_ild 1 25), (25, o_callV M_Ml_actDrop 1 2 28), (28, o_callV M_Ch_keepIfDone 3 2 31), (31, o_iret)]
theorem k_R_drop : ∀ x ∈ T_R_drop, SO M_R_drop x.1 x.2 := by
  obtain ⟨h0, h1, h2, h5, h6, h9, h10, h13, h16, h17, h20, h21⟩ := e0_R_drop
  obtain ⟨h24, h25, h28, h31⟩ := e1_R_drop
  refine ac (s_aldn (M := M_R_drop) (pc := 0) (k := 0) h0) ?_
  refine ac (s_ildn (M := M_R_drop) (pc := 1) (k := 1) h1) ?_
  refine ac (s_alt (M := M_R_drop) (pc := 2) (s_callV (tz_R rfl) h2 q_R_needModulus wd435 wd437 wd2 rfl (T := TX7) (N := 12) rfl) (s_callVB (mc1 := 1) (ms1 := 6) (tz_R rfl) h2 q_R_needModulus wd435 wd437 wd2 rfl (T := TX7) (N := 12) rfl)) ?_
  refine ac (s_aldn (M := M_R_drop) (pc := 5) (k := 0) h5) ?_
  refine ac (s_get (M := M_R_drop) (pc := 6) (T := TX7) (N := 12) h6 rfl in_X7 (by decide) wd291) ?_
  refine ac (s_aldn (M := M_R_drop) (pc := 9) (k := 0) h9) ?_
  refine ac (s_get (M := M_R_drop) (pc := 10) (T := TX7) (N := 12) h10 rfl in_X7 (by decide) wd287) ?_
  refine ac (s_callV (M := M_R_drop) (pc := 13) (tz_R rfl) h13 q_Ch_prepare wd559 wd560 wd561 rfl (T := TX0) (N := 3) rfl) ?_
  refine ac (s_aldn (M := M_R_drop) (pc := 16) (k := 0) h16) ?_
  refine ac (s_get (M := M_R_drop) (pc := 17) (T := TX7) (N := 12) h17 rfl in_X7 (by decide) wd291) ?_
  refine ac (s_aldn (M := M_R_drop) (pc := 20) (k := 0) h20) ?_
  refine ac (s_get (M := M_R_drop) (pc := 21) (T := TX7) (N := 12) h21 rfl in_X7 (by decide) wd287) ?_
  refine ac (s_ildn (M := M_R_drop) (pc := 24) (k := 1) h24) ?_
  refine ac (s_callV (M := M_R_drop) (pc := 25) (tz_R rfl) h25 q_Ml_actDrop wd1281 wd1282 wd1283 rfl (T := TX1) (N := 4) rfl) ?_
  refine ac (s_callV (M := M_R_drop) (pc := 28) (tz_R rfl) h28 q_Ch_keepIfDone wd603 wd604 wd605 rfl (T := TX0) (N := 3) rfl) ?_
  refine ac (s_iret (M := M_R_drop) (pc := 31) h31 rfl) ?_
  exact ac_nil
