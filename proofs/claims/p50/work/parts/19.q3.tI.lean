theorem e0_Ml_init : decode prog_3_method_1_code 0 = .ok (.aload_n 0, 1) ∧ decode prog_3_method_1_code 1 = .ok (.invokespecial 3, 3) ∧ decode prog_3_method_1_code 4 = .ok (.aload_n 0, 1) ∧ decode prog_3_method_1_code 5 = .ok (.new 9, 3) ∧ decode prog_3_method_1_code 8 = .ok (.dup, 1) ∧ decode prog_3_method_1_code 9 = .ok (.invokespecial 11, 3) ∧ decode prog_3_method_1_code 12 = .ok (.putfield 12, 3) ∧ decode prog_3_method_1_code 15 = .ok (.aload_n 0, 1) ∧ decode prog_3_method_1_code 16 = .ok (.bipush 8, 2) ∧ decode prog_3_method_1_code 18 = .ok (.newarray .long, 2) ∧ decode prog_3_method_1_code 20 = .ok (.putfield 18, 3) ∧ decode prog_3_method_1_code 23 = .ok (.aload_n 0, 1) := by decide +kernel
theorem e1_Ml_init : decode prog_3_method_1_code 24 = .ok (.bipush 8, 2) ∧ decode prog_3_method_1_code 26 = .ok (.newarray .int, 2) ∧ decode prog_3_method_1_code 28 = .ok (.putfield 22, 3) ∧ decode prog_3_method_1_code 31 = .ok (.return_, 1) := by decide +kernel
def T_Ml_init : TT := [(0, o_ald 0 1), (1, o_oinit 4), (4, o_ald 0 5), (5, o_new 2 6 [.null, .null, .int (iI 0), .int (iI 0), .long (lI 0), .long (lI 0)] 8), (8, o_dup 9), (9, o_callI M_Mo_init 1 2 12 12), (12, o_putr 1 0 15), (15, o_ald 0 16), (16, o_push (.int (iI (8))) 18), (18, o_newal 20), (20, o_putr 1 1 23), (23, o_ald 0 24), (24, o_push (.int (iI (8))) 26), (26, o_newai 1 28), (28, o_putr 1 2 31), (31, o_vret)]
theorem k_Ml_init : ∀ x ∈ T_Ml_init, SO M_Ml_init x.1 x.2 := by
  obtain ⟨h0, h1, h4, h5, h8, h9, h12, h15, h16, h18, h20, h23⟩ := e0_Ml_init
  obtain ⟨h24, h26, h28, h31⟩ := e1_Ml_init
  refine ac (s_aldn (M := M_Ml_init) (pc := 0) (k := 0) h0) ?_
  refine ac (s_oinit (M := M_Ml_init) (pc := 1) h1 wd63 wd56 wd57) ?_
  refine ac (s_aldn (M := M_Ml_init) (pc := 4) (k := 0) h4) ?_
  refine ac (s_new (M := M_Ml_init) (pc := 5) (T := TX2) (N := 6) (fs := [.null, .null, .int (iI 0), .int (iI 0), .long (lI 0), .long (lI 0)]) h5 rfl in_X2 tyX2_ok wd64 wd65 wd23 (fun j hj => match j, hj with | 0, _ => rfl | 1, _ => rfl | 2, _ => rfl | 3, _ => rfl | 4, _ => rfl | 5, _ => rfl | j + 6, h => absurd h (by omega)) (fun _ => rfl)) ?_
  refine ac (s_dup (M := M_Ml_init) (pc := 8) h8) ?_
  refine ac (s_callI (M := M_Ml_init) (pc := 9) (mc1 := 2) (ms1 := 12) (tz_Ml rfl) h9 q_Mo_init rfl rfl wd66 wd67) ?_
  refine ac (s_putr (M := M_Ml_init) (pc := 12) (T := TX1) (N := 4) (ty0 := tyX1) h12 ⟨rfl, in_X1, by decide, wd99, tyX1_ok, nmX1, (Or.inr ⟨rfl, rfl, rfl⟩)⟩ (Or.inl ⟨_, rfl⟩)) ?_
  refine ac (s_aldn (M := M_Ml_init) (pc := 15) (k := 0) h15) ?_
  refine ac (s_bipush (M := M_Ml_init) (pc := 16) h16 (by decide)) ?_
  refine ac (s_newal (M := M_Ml_init) (pc := 18) h18 rfl wd98 (fun _ _ => rfl)) ?_
  refine ac (s_putr (M := M_Ml_init) (pc := 20) (T := TX1) (N := 4) (ty0 := tyX1) h20 ⟨rfl, in_X1, by decide, wd102, tyX1_ok, nmX1, (Or.inr ⟨rfl, rfl, rfl⟩)⟩ (Or.inr ⟨_, rfl⟩)) ?_
  refine ac (s_aldn (M := M_Ml_init) (pc := 23) (k := 0) h23) ?_
  refine ac (s_bipush (M := M_Ml_init) (pc := 24) h24 (by decide)) ?_
  refine ac (s_newai (M := M_Ml_init) (pc := 26) (t := 1) h26 rfl (fun _ => rfl) wd97 (by decide) (fun _ _ => rfl)) ?_
  refine ac (s_putr (M := M_Ml_init) (pc := 28) (T := TX1) (N := 4) (ty0 := tyX1) h28 ⟨rfl, in_X1, by decide, wd103, tyX1_ok, nmX1, (Or.inr ⟨rfl, rfl, rfl⟩)⟩ (Or.inr ⟨_, rfl⟩)) ?_
  refine ac (s_vret (M := M_Ml_init) (pc := 31) h31 rfl) ?_
  exact ac_nil
theorem e0_Mo_init : decode prog_4_method_1_code 0 = .ok (.aload_n 0, 1) ∧ decode prog_4_method_1_code 1 = .ok (.invokespecial 3, 3) ∧ decode prog_4_method_1_code 4 = .ok (.aload_n 0, 1) ∧ decode prog_4_method_1_code 5 = .ok (.bipush 6, 2) ∧ decode prog_4_method_1_code 7 = .ok (.newarray .int, 2) ∧ decode prog_4_method_1_code 9 = .ok (.putfield 9, 3) ∧ decode prog_4_method_1_code 12 = .ok (.aload_n 0, 1) ∧ decode prog_4_method_1_code 13 = .ok (.bipush 6, 2) ∧ decode prog_4_method_1_code 15 = .ok (.newarray .long, 2) ∧ decode prog_4_method_1_code 17 = .ok (.putfield 15, 3) ∧ decode prog_4_method_1_code 20 = .ok (.aload_n 0, 1) ∧ decode prog_4_method_1_code 21 = .ok (.lconst 1, 1) := by decide +kernel
theorem e1_Mo_init : decode prog_4_method_1_code 22 = .ok (.putfield 19, 3) ∧ decode prog_4_method_1_code 25 = .ok (.aload_n 0, 1) ∧ decode prog_4_method_1_code 26 = .ok (.lconst 1, 1) ∧ decode prog_4_method_1_code 27 = .ok (.putfield 23, 3) ∧ decode prog_4_method_1_code 30 = .ok (.return_, 1) := by decide +kernel
def T_Mo_init : TT := [(0, o_ald 0 1), (1, o_oinit 4), (4, o_ald 0 5), (5, o_push (.int (iI (6))) 7), (7, o_newai 1 9), (9, o_putr 2 0 12), (12, o_ald 0 13), (13, o_push (.int (iI (6))) 15), (15, o_newal 17), (17, o_putr 2 1 20), (20, o_ald 0 21), (21, o_push (.long (lI 1)) 22), (22, o_putl 2 4 25), (25, o_ald 0 26), (26, o_push (.long (lI 1)) 27), (27, o_putl 2 5 30), (30, o_vret)]
theorem k_Mo_init : ∀ x ∈ T_Mo_init, SO M_Mo_init x.1 x.2 := by
  obtain ⟨h0, h1, h4, h5, h7, h9, h12, h13, h15, h17, h20, h21⟩ := e0_Mo_init
  obtain ⟨h22, h25, h26, h27, h30⟩ := e1_Mo_init
  refine ac (s_aldn (M := M_Mo_init) (pc := 0) (k := 0) h0) ?_
  refine ac (s_oinit (M := M_Mo_init) (pc := 1) h1 wd69 wd56 wd57) ?_
  refine ac (s_aldn (M := M_Mo_init) (pc := 4) (k := 0) h4) ?_
  refine ac (s_bipush (M := M_Mo_init) (pc := 5) h5 (by decide)) ?_
  refine ac (s_newai (M := M_Mo_init) (pc := 7) (t := 1) h7 rfl (fun _ => rfl) wd97 (by decide) (fun _ _ => rfl)) ?_
  refine ac (s_putr (M := M_Mo_init) (pc := 9) (T := TX2) (N := 6) (ty0 := tyX2) h9 ⟨rfl, in_X2, by decide, wd70, tyX2_ok, nmX2, (Or.inr ⟨rfl, rfl, rfl⟩)⟩ (Or.inr ⟨_, rfl⟩)) ?_
  refine ac (s_aldn (M := M_Mo_init) (pc := 12) (k := 0) h12) ?_
  refine ac (s_bipush (M := M_Mo_init) (pc := 13) h13 (by decide)) ?_
  refine ac (s_newal (M := M_Mo_init) (pc := 15) h15 rfl wd98 (fun _ _ => rfl)) ?_
  refine ac (s_putr (M := M_Mo_init) (pc := 17) (T := TX2) (N := 6) (ty0 := tyX2) h17 ⟨rfl, in_X2, by decide, wd71, tyX2_ok, nmX2, (Or.inr ⟨rfl, rfl, rfl⟩)⟩ (Or.inr ⟨_, rfl⟩)) ?_
  refine ac (s_aldn (M := M_Mo_init) (pc := 20) (k := 0) h20) ?_
  refine ac (s_lconst (M := M_Mo_init) (pc := 21) h21 (by decide)) ?_
  refine ac (s_putl (M := M_Mo_init) (pc := 22) (T := TX2) (N := 6) (ty0 := tyX2) h22 ⟨rfl, in_X2, by decide, wd78, tyX2_ok, nmX2, (Or.inl rfl)⟩ rfl) ?_
  refine ac (s_aldn (M := M_Mo_init) (pc := 25) (k := 0) h25) ?_
  refine ac (s_lconst (M := M_Mo_init) (pc := 26) h26 (by decide)) ?_
  refine ac (s_putl (M := M_Mo_init) (pc := 27) (T := TX2) (N := 6) (ty0 := tyX2) h27 ⟨rfl, in_X2, by decide, wd81, tyX2_ok, nmX2, (Or.inl rfl)⟩ rfl) ?_
  refine ac (s_vret (M := M_Mo_init) (pc := 30) h30 rfl) ?_
  exact ac_nil
theorem e0_Ch_init : decode prog_2_method_1_code 0 = .ok (.aload_n 0, 1) ∧ decode prog_2_method_1_code 1 = .ok (.invokespecial 3, 3) ∧ decode prog_2_method_1_code 4 = .ok (.aload_n 0, 1) ∧ decode prog_2_method_1_code 5 = .ok (.bipush 9, 2) ∧ decode prog_2_method_1_code 7 = .ok (.anewarray 9, 3) ∧ decode prog_2_method_1_code 10 = .ok (.putfield 11, 3) ∧ decode prog_2_method_1_code 13 = .ok (.iconst 0, 1) ∧ decode prog_2_method_1_code 14 = .ok (.istore_n 1, 1) ∧ decode prog_2_method_1_code 15 = .ok (.iload_n 1, 1) ∧ decode prog_2_method_1_code 16 = .ok (.bipush 9, 2) ∧ decode prog_2_method_1_code 18 = .ok (.if_icmp .ge 22, 3) ∧ decode prog_2_method_1_code 21 = .ok (.aload_n 0, 1) := by decide +kernel
theorem e1_Ch_init : decode prog_2_method_1_code 22 = .ok (.getfield 11, 3) ∧ decode prog_2_method_1_code 25 = .ok (.iload_n 1, 1) ∧ decode prog_2_method_1_code 26 = .ok (.new 9, 3) ∧ decode prog_2_method_1_code 29 = .ok (.dup, 1) ∧ decode prog_2_method_1_code 30 = .ok (.invokespecial 17, 3) ∧ decode prog_2_method_1_code 33 = .ok (.aastore, 1) ∧ decode prog_2_method_1_code 34 = .ok (.iinc 1 1, 3) ∧ decode prog_2_method_1_code 37 = .ok (.goto (-22), 3) ∧ decode prog_2_method_1_code 40 = .ok (.return_, 1) := by decide +kernel
def T_Ch_init : TT := [(0, o_ald 0 1), (1, o_oinit 4), (4, o_ald 0 5), (5, o_push (.int (iI (9))) 7), (7, o_newaq 10), (10, o_putr 3 0 13), (13, o_push (.int (iI (0))) 14), (14, o_ist 1 15), (15, o_ild 1 16), (16, o_push (.int (iI (9))) 18), (18, o_icmp_ge 40 21), (21, o_ald 0 22), (22, o_get 3 0 25), (25, o_ild 1 26), (26, o_new 1 4 [.null, .null, .null, .int (iI 0)] 29), (29, o_dup 30), (30, o_callI M_Ml_init 1 5 34 33), (33, o_aast 34), (34, o_iinc 1 (iI (1)) 37), (37, o_goto 15), (40, o_vret)]
theorem k_Ch_init : ∀ x ∈ T_Ch_init, SO M_Ch_init x.1 x.2 := by
  obtain ⟨h0, h1, h4, h5, h7, h10, h13, h14, h15, h16, h18, h21⟩ := e0_Ch_init
  obtain ⟨h22, h25, h26, h29, h30, h33, h34, h37, h40⟩ := e1_Ch_init
  refine ac (s_aldn (M := M_Ch_init) (pc := 0) (k := 0) h0) ?_
  refine ac (s_oinit (M := M_Ch_init) (pc := 1) h1 wd121 wd56 wd57) ?_
  refine ac (s_aldn (M := M_Ch_init) (pc := 4) (k := 0) h4) ?_
  refine ac (s_bipush (M := M_Ch_init) (pc := 5) h5 (by decide)) ?_
  refine ac (s_newaq (M := M_Ch_init) (pc := 7) h7 wd122) ?_
  refine ac (s_putr (M := M_Ch_init) (pc := 10) (T := TX0) (N := 3) (ty0 := tyX0) h10 ⟨rfl, in_X0, by decide, wd125, tyX0_ok, nmX0, (Or.inr ⟨rfl, rfl, rfl⟩)⟩ (Or.inr ⟨_, rfl⟩)) ?_
  refine ac (s_iconst (M := M_Ch_init) (pc := 13) h13 rfl) ?_
  refine ac (s_istn (M := M_Ch_init) (pc := 14) (k := 1) h14 (by decide)) ?_
  refine ac (s_ildn (M := M_Ch_init) (pc := 15) (k := 1) h15) ?_
  refine ac (s_bipush (M := M_Ch_init) (pc := 16) h16 (by decide)) ?_
  refine ac (s_icmp_ge (M := M_Ch_init) (pc := 18) h18 (by decide)) ?_
  refine ac (s_aldn (M := M_Ch_init) (pc := 21) (k := 0) h21) ?_
  refine ac (s_get (M := M_Ch_init) (pc := 22) (T := TX0) (N := 3) h22 rfl in_X0 (by decide) wd125) ?_
  refine ac (s_ildn (M := M_Ch_init) (pc := 25) (k := 1) h25) ?_
  refine ac (s_new (M := M_Ch_init) (pc := 26) (T := TX1) (N := 4) (fs := [.null, .null, .null, .int (iI 0)]) h26 rfl in_X1 tyX1_ok wd122 wd59 wd22 (fun j hj => match j, hj with | 0, _ => rfl | 1, _ => rfl | 2, _ => rfl | 3, _ => rfl | j + 4, h => absurd h (by omega)) (fun _ => rfl)) ?_
  refine ac (s_dup (M := M_Ch_init) (pc := 29) h29) ?_
  refine ac (s_callI (M := M_Ch_init) (pc := 30) (mc1 := 5) (ms1 := 34) (tz_Ch rfl) h30 q_Ml_init rfl rfl wd124 wd61) ?_
  refine ac (s_aast (M := M_Ch_init) (pc := 33) h33) ?_
  refine ac (s_iinc (M := M_Ch_init) (pc := 34) h34 rfl (by decide)) ?_
  refine ac (s_goto (M := M_Ch_init) (pc := 37) h37 (by decide)) ?_
  refine ac (s_vret (M := M_Ch_init) (pc := 40) h40 rfl) ?_
  exact ac_nil
theorem e0_Se_init : decode prog_7_method_1_code 0 = .ok (.aload_n 0, 1) ∧ decode prog_7_method_1_code 1 = .ok (.invokespecial 3, 3) ∧ decode prog_7_method_1_code 4 = .ok (.aload_n 0, 1) ∧ decode prog_7_method_1_code 5 = .ok (.new 9, 3) ∧ decode prog_7_method_1_code 8 = .ok (.dup, 1) ∧ decode prog_7_method_1_code 9 = .ok (.invokespecial 11, 3) ∧ decode prog_7_method_1_code 12 = .ok (.putfield 12, 3) ∧ decode prog_7_method_1_code 15 = .ok (.return_, 1) := by decide +kernel
def T_Se_init : TT := [(0, o_ald 0 1), (1, o_oinit 4), (4, o_ald 0 5), (5, o_new 4 7 [.null, .null, .null, .int (iI 0), .int (iI 0), .int (iI 0), .int (iI 0)] 8), (8, o_dup 9), (9, o_callI M_Tk_init 1 3 1503 12), (12, o_putr 5 0 15), (15, o_vret)]
theorem k_Se_init : ∀ x ∈ T_Se_init, SO M_Se_init x.1 x.2 := by
  obtain ⟨h0, h1, h4, h5, h8, h9, h12, h15⟩ := e0_Se_init
  refine ac (s_aldn (M := M_Se_init) (pc := 0) (k := 0) h0) ?_
  refine ac (s_oinit (M := M_Se_init) (pc := 1) h1 wd141 wd56 wd57) ?_
  refine ac (s_aldn (M := M_Se_init) (pc := 4) (k := 0) h4) ?_
  refine ac (s_new (M := M_Se_init) (pc := 5) (T := TX6) (N := 7) (fs := [.null, .null, .null, .int (iI 0), .int (iI 0), .int (iI 0), .int (iI 0)]) h5 rfl in_X6 tyX6_ok wd142 wd143 wd26 (fun j hj => match j, hj with | 0, _ => rfl | 1, _ => rfl | 2, _ => rfl | 3, _ => rfl | 4, _ => rfl | 5, _ => rfl | 6, _ => rfl | j + 7, h => absurd h (by omega)) (fun _ => rfl)) ?_
  refine ac (s_dup (M := M_Se_init) (pc := 8) h8) ?_
  refine ac (s_callI (M := M_Se_init) (pc := 9) (mc1 := 3) (ms1 := 1503) (tz_Se rfl) h9 q_Tk_init rfl rfl wd144 wd145) ?_
  refine ac (s_putr (M := M_Se_init) (pc := 12) (T := TX5) (N := 1) (ty0 := tyX5) h12 ⟨rfl, in_X5, by decide, wd172, tyX5_ok, nmX5, (Or.inr ⟨rfl, rfl, rfl⟩)⟩ (Or.inl ⟨_, rfl⟩)) ?_
  refine ac (s_vret (M := M_Se_init) (pc := 15) h15 rfl) ?_
  exact ac_nil
theorem e0_Tk_init : decode prog_8_method_1_code 0 = .ok (.aload_n 0, 1) ∧ decode prog_8_method_1_code 1 = .ok (.invokespecial 3, 3) ∧ decode prog_8_method_1_code 4 = .ok (.aload_n 0, 1) ∧ decode prog_8_method_1_code 5 = .ok (.sipush 501, 3) ∧ decode prog_8_method_1_code 8 = .ok (.newarray .int, 2) ∧ decode prog_8_method_1_code 10 = .ok (.putfield 9, 3) ∧ decode prog_8_method_1_code 13 = .ok (.aload_n 0, 1) ∧ decode prog_8_method_1_code 14 = .ok (.sipush 501, 3) ∧ decode prog_8_method_1_code 17 = .ok (.newarray .int, 2) ∧ decode prog_8_method_1_code 19 = .ok (.putfield 15, 3) ∧ decode prog_8_method_1_code 22 = .ok (.aload_n 0, 1) ∧ decode prog_8_method_1_code 23 = .ok (.sipush 501, 3) := by decide +kernel
theorem e1_Tk_init : decode prog_8_method_1_code 26 = .ok (.newarray .int, 2) ∧ decode prog_8_method_1_code 28 = .ok (.putfield 18, 3) ∧ decode prog_8_method_1_code 31 = .ok (.aload_n 0, 1) ∧ decode prog_8_method_1_code 32 = .ok (.iconst 0, 1) ∧ decode prog_8_method_1_code 33 = .ok (.putfield 21, 3) ∧ decode prog_8_method_1_code 36 = .ok (.aload_n 0, 1) ∧ decode prog_8_method_1_code 37 = .ok (.iconst (-1), 1) ∧ decode prog_8_method_1_code 38 = .ok (.putfield 25, 3) ∧ decode prog_8_method_1_code 41 = .ok (.return_, 1) := by decide +kernel
def T_Tk_init : TT := [(0, o_ald 0 1), (1, o_oinit 4), (4, o_ald 0 5), (5, o_push (.int (iI (501))) 8), (8, o_newai 1 10), (10, o_putr 4 0 13), (13, o_ald 0 14), (14, o_push (.int (iI (501))) 17), (17, o_newai 1 19), (19, o_putr 4 1 22), (22, o_ald 0 23), (23, o_push (.int (iI (501))) 26), (26, o_newai 1 28), (28, o_putr 4 2 31), (31, o_ald 0 32), (32, o_push (.int (iI (0))) 33), (33, o_puti 4 5 36), (36, o_ald 0 37), (37, o_push (.int (iI (-1))) 38), (38, o_puti 4 6 41), (41, o_vret)]
theorem k_Tk_init : ∀ x ∈ T_Tk_init, SO M_Tk_init x.1 x.2 := by
  obtain ⟨h0, h1, h4, h5, h8, h10, h13, h14, h17, h19, h22, h23⟩ := e0_Tk_init
  obtain ⟨h26, h28, h31, h32, h33, h36, h37, h38, h41⟩ := e1_Tk_init
  refine ac (s_aldn (M := M_Tk_init) (pc := 0) (k := 0) h0) ?_
  refine ac (s_oinit (M := M_Tk_init) (pc := 1) h1 wd147 wd56 wd57) ?_
  refine ac (s_aldn (M := M_Tk_init) (pc := 4) (k := 0) h4) ?_
  refine ac (s_sipush (M := M_Tk_init) (pc := 5) h5 (by decide)) ?_
  refine ac (s_newai (M := M_Tk_init) (pc := 8) (t := 1) h8 rfl (fun _ => rfl) wd97 (by decide) (fun _ _ => rfl)) ?_
  refine ac (s_putr (M := M_Tk_init) (pc := 10) (T := TX6) (N := 7) (ty0 := tyX6) h10 ⟨rfl, in_X6, by decide, wd148, tyX6_ok, nmX6, (Or.inr ⟨rfl, rfl, rfl⟩)⟩ (Or.inr ⟨_, rfl⟩)) ?_
  refine ac (s_aldn (M := M_Tk_init) (pc := 13) (k := 0) h13) ?_
  refine ac (s_sipush (M := M_Tk_init) (pc := 14) h14 (by decide)) ?_
  refine ac (s_newai (M := M_Tk_init) (pc := 17) (t := 1) h17 rfl (fun _ => rfl) wd97 (by decide) (fun _ _ => rfl)) ?_
  refine ac (s_putr (M := M_Tk_init) (pc := 19) (T := TX6) (N := 7) (ty0 := tyX6) h19 ⟨rfl, in_X6, by decide, wd149, tyX6_ok, nmX6, (Or.inr ⟨rfl, rfl, rfl⟩)⟩ (Or.inr ⟨_, rfl⟩)) ?_
  refine ac (s_aldn (M := M_Tk_init) (pc := 22) (k := 0) h22) ?_
  refine ac (s_sipush (M := M_Tk_init) (pc := 23) h23 (by decide)) ?_
  refine ac (s_newai (M := M_Tk_init) (pc := 26) (t := 1) h26 rfl (fun _ => rfl) wd97 (by decide) (fun _ _ => rfl)) ?_
  refine ac (s_putr (M := M_Tk_init) (pc := 28) (T := TX6) (N := 7) (ty0 := tyX6) h28 ⟨rfl, in_X6, by decide, wd150, tyX6_ok, nmX6, (Or.inr ⟨rfl, rfl, rfl⟩)⟩ (Or.inr ⟨_, rfl⟩)) ?_
  refine ac (s_aldn (M := M_Tk_init) (pc := 31) (k := 0) h31) ?_
  refine ac (s_iconst (M := M_Tk_init) (pc := 32) h32 rfl) ?_
  refine ac (s_puti (M := M_Tk_init) (pc := 33) (T := TX6) (N := 7) (ty0 := tyX6) h33 ⟨rfl, in_X6, by decide, wd153, tyX6_ok, nmX6, (Or.inl rfl)⟩ rfl) ?_
  refine ac (s_aldn (M := M_Tk_init) (pc := 36) (k := 0) h36) ?_
  refine ac (s_iconst (M := M_Tk_init) (pc := 37) h37 rfl) ?_
  refine ac (s_puti (M := M_Tk_init) (pc := 38) (T := TX6) (N := 7) (ty0 := tyX6) h38 ⟨rfl, in_X6, by decide, wd155, tyX6_ok, nmX6, (Or.inl rfl)⟩ rfl) ?_
  refine ac (s_vret (M := M_Tk_init) (pc := 41) h41 rfl) ?_
  exact ac_nil
theorem e0_Sc_init : decode prog_6_method_1_code 0 = .ok (.aload_n 0, 1) ∧ decode prog_6_method_1_code 1 = .ok (.invokespecial 3, 3) ∧ decode prog_6_method_1_code 4 = .ok (.aload_n 0, 1) ∧ decode prog_6_method_1_code 5 = .ok (.new 9, 3) ∧ decode prog_6_method_1_code 8 = .ok (.dup, 1) ∧ decode prog_6_method_1_code 9 = .ok (.invokespecial 11, 3) ∧ decode prog_6_method_1_code 12 = .ok (.putfield 12, 3) ∧ decode prog_6_method_1_code 15 = .ok (.aload_n 0, 1) ∧ decode prog_6_method_1_code 16 = .ok (.new 18, 3) ∧ decode prog_6_method_1_code 19 = .ok (.dup, 1) ∧ decode prog_6_method_1_code 20 = .ok (.invokespecial 20, 3) ∧ decode prog_6_method_1_code 23 = .ok (.putfield 21, 3) := by decide +kernel
theorem e1_Sc_init : decode prog_6_method_1_code 26 = .ok (.return_, 1) := by decide +kernel
def T_Sc_init : TT := [(0, o_ald 0 1), (1, o_oinit 4), (4, o_ald 0 5), (5, o_new 4 7 [.null, .null, .null, .int (iI 0), .int (iI 0), .int (iI 0), .int (iI 0)] 8), (8, o_dup 9), (9, o_callI M_Tk_init 1 3 1503 12), (12, o_putr 6 0 15), (15, o_ald 0 16), (16, o_new 7 6 [.null, .null, .null, .null, .int (iI 0), .int (iI 0)] 19), (19, o_dup 20), (20, o_callI M_Pg_init 1 4 3032 23), (23, o_putr 6 1 26), (26, o_vret)]
theorem k_Sc_init : ∀ x ∈ T_Sc_init, SO M_Sc_init x.1 x.2 := by
  obtain ⟨h0, h1, h4, h5, h8, h9, h12, h15, h16, h19, h20, h23⟩ := e0_Sc_init
  have h26 := e1_Sc_init
  refine ac (s_aldn (M := M_Sc_init) (pc := 0) (k := 0) h0) ?_
  refine ac (s_oinit (M := M_Sc_init) (pc := 1) h1 wd182 wd56 wd57) ?_
  refine ac (s_aldn (M := M_Sc_init) (pc := 4) (k := 0) h4) ?_
  refine ac (s_new (M := M_Sc_init) (pc := 5) (T := TX6) (N := 7) (fs := [.null, .null, .null, .int (iI 0), .int (iI 0), .int (iI 0), .int (iI 0)]) h5 rfl in_X6 tyX6_ok wd183 wd143 wd26 (fun j hj => match j, hj with | 0, _ => rfl | 1, _ => rfl | 2, _ => rfl | 3, _ => rfl | 4, _ => rfl | 5, _ => rfl | 6, _ => rfl | j + 7, h => absurd h (by omega)) (fun _ => rfl)) ?_
  refine ac (s_dup (M := M_Sc_init) (pc := 8) h8) ?_
  refine ac (s_callI (M := M_Sc_init) (pc := 9) (mc1 := 3) (ms1 := 1503) (tz_Sc rfl) h9 q_Tk_init rfl rfl wd184 wd145) ?_
  refine ac (s_putr (M := M_Sc_init) (pc := 12) (T := TX4) (N := 4) (ty0 := tyX4) h12 ⟨rfl, in_X4, by decide, wd208, tyX4_ok, nmX4, (Or.inr ⟨rfl, rfl, rfl⟩)⟩ (Or.inl ⟨_, rfl⟩)) ?_
  refine ac (s_aldn (M := M_Sc_init) (pc := 15) (k := 0) h15) ?_
  refine ac (s_new (M := M_Sc_init) (pc := 16) (T := TX3) (N := 6) (fs := [.null, .null, .null, .null, .int (iI 0), .int (iI 0)]) h16 rfl in_X3 tyX3_ok wd185 wd186 wd28 (fun j hj => match j, hj with | 0, _ => rfl | 1, _ => rfl | 2, _ => rfl | 3, _ => rfl | 4, _ => rfl | 5, _ => rfl | j + 6, h => absurd h (by omega)) (fun _ => rfl)) ?_
  refine ac (s_dup (M := M_Sc_init) (pc := 19) h19) ?_
  refine ac (s_callI (M := M_Sc_init) (pc := 20) (mc1 := 4) (ms1 := 3032) (tz_Sc rfl) h20 q_Pg_init rfl rfl wd187 wd188) ?_
  refine ac (s_putr (M := M_Sc_init) (pc := 23) (T := TX4) (N := 4) (ty0 := tyX4) h23 ⟨rfl, in_X4, by decide, wd209, tyX4_ok, nmX4, (Or.inr ⟨rfl, rfl, rfl⟩)⟩ (Or.inl ⟨_, rfl⟩)) ?_
  refine ac (s_vret (M := M_Sc_init) (pc := 26) h26 rfl) ?_
  exact ac_nil
theorem e0_Pg_init : decode prog_5_method_1_code 0 = .ok (.aload_n 0, 1) ∧ decode prog_5_method_1_code 1 = .ok (.invokespecial 3, 3) ∧ decode prog_5_method_1_code 4 = .ok (.aload_n 0, 1) ∧ decode prog_5_method_1_code 5 = .ok (.sipush 1000, 3) ∧ decode prog_5_method_1_code 8 = .ok (.newarray .int, 2) ∧ decode prog_5_method_1_code 10 = .ok (.putfield 9, 3) ∧ decode prog_5_method_1_code 13 = .ok (.aload_n 0, 1) ∧ decode prog_5_method_1_code 14 = .ok (.sipush 1000, 3) ∧ decode prog_5_method_1_code 17 = .ok (.newarray .int, 2) ∧ decode prog_5_method_1_code 19 = .ok (.putfield 15, 3) ∧ decode prog_5_method_1_code 22 = .ok (.aload_n 0, 1) ∧ decode prog_5_method_1_code 23 = .ok (.sipush 1000, 3) := by decide +kernel
theorem e1_Pg_init : decode prog_5_method_1_code 26 = .ok (.newarray .int, 2) ∧ decode prog_5_method_1_code 28 = .ok (.putfield 18, 3) ∧ decode prog_5_method_1_code 31 = .ok (.aload_n 0, 1) ∧ decode prog_5_method_1_code 32 = .ok (.bipush 32, 2) ∧ decode prog_5_method_1_code 34 = .ok (.newarray .long, 2) ∧ decode prog_5_method_1_code 36 = .ok (.putfield 21, 3) ∧ decode prog_5_method_1_code 39 = .ok (.return_, 1) := by decide +kernel
def T_Pg_init : TT := [(0, o_ald 0 1), (1, o_oinit 4), (4, o_ald 0 5), (5, o_push (.int (iI (1000))) 8), (8, o_newai 1 10), (10, o_putr 7 0 13), (13, o_ald 0 14), (14, o_push (.int (iI (1000))) 17), (17, o_newai 1 19), (19, o_putr 7 1 22), (22, o_ald 0 23), (23, o_push (.int (iI (1000))) 26), (26, o_newai 1 28), (28, o_putr 7 2 31), (31, o_ald 0 32), (32, o_push (.int (iI (32))) 34), (34, o_newal 36), (36, o_putr 7 3 39), (39, o_vret)]
theorem k_Pg_init : ∀ x ∈ T_Pg_init, SO M_Pg_init x.1 x.2 := by
  obtain ⟨h0, h1, h4, h5, h8, h10, h13, h14, h17, h19, h22, h23⟩ := e0_Pg_init
  obtain ⟨h26, h28, h31, h32, h34, h36, h39⟩ := e1_Pg_init
  refine ac (s_aldn (M := M_Pg_init) (pc := 0) (k := 0) h0) ?_
  refine ac (s_oinit (M := M_Pg_init) (pc := 1) h1 wd190 wd56 wd57) ?_
  refine ac (s_aldn (M := M_Pg_init) (pc := 4) (k := 0) h4) ?_
  refine ac (s_sipush (M := M_Pg_init) (pc := 5) h5 (by decide)) ?_
  refine ac (s_newai (M := M_Pg_init) (pc := 8) (t := 1) h8 rfl (fun _ => rfl) wd97 (by decide) (fun _ _ => rfl)) ?_
  refine ac (s_putr (M := M_Pg_init) (pc := 10) (T := TX3) (N := 6) (ty0 := tyX3) h10 ⟨rfl, in_X3, by decide, wd191, tyX3_ok, nmX3, (Or.inr ⟨rfl, rfl, rfl⟩)⟩ (Or.inr ⟨_, rfl⟩)) ?_
  refine ac (s_aldn (M := M_Pg_init) (pc := 13) (k := 0) h13) ?_
  refine ac (s_sipush (M := M_Pg_init) (pc := 14) h14 (by decide)) ?_
  refine ac (s_newai (M := M_Pg_init) (pc := 17) (t := 1) h17 rfl (fun _ => rfl) wd97 (by decide) (fun _ _ => rfl)) ?_
  refine ac (s_putr (M := M_Pg_init) (pc := 19) (T := TX3) (N := 6) (ty0 := tyX3) h19 ⟨rfl, in_X3, by decide, wd192, tyX3_ok, nmX3, (Or.inr ⟨rfl, rfl, rfl⟩)⟩ (Or.inr ⟨_, rfl⟩)) ?_
  refine ac (s_aldn (M := M_Pg_init) (pc := 22) (k := 0) h22) ?_
  refine ac (s_sipush (M := M_Pg_init) (pc := 23) h23 (by decide)) ?_
  refine ac (s_newai (M := M_Pg_init) (pc := 26) (t := 1) h26 rfl (fun _ => rfl) wd97 (by decide) (fun _ _ => rfl)) ?_
  refine ac (s_putr (M := M_Pg_init) (pc := 28) (T := TX3) (N := 6) (ty0 := tyX3) h28 ⟨rfl, in_X3, by decide, wd193, tyX3_ok, nmX3, (Or.inr ⟨rfl, rfl, rfl⟩)⟩ (Or.inr ⟨_, rfl⟩)) ?_
  refine ac (s_aldn (M := M_Pg_init) (pc := 31) (k := 0) h31) ?_
  refine ac (s_bipush (M := M_Pg_init) (pc := 32) h32 (by decide)) ?_
  refine ac (s_newal (M := M_Pg_init) (pc := 34) h34 rfl wd98 (fun _ _ => rfl)) ?_
  refine ac (s_putr (M := M_Pg_init) (pc := 36) (T := TX3) (N := 6) (ty0 := tyX3) h36 ⟨rfl, in_X3, by decide, wd194, tyX3_ok, nmX3, (Or.inr ⟨rfl, rfl, rfl⟩)⟩ (Or.inr ⟨_, rfl⟩)) ?_
  refine ac (s_vret (M := M_Pg_init) (pc := 39) h39 rfl) ?_
  exact ac_nil
theorem e0_Tk_readToken : decode prog_8_method_10_code 0 = .ok (.aload_n 1, 1) ∧ decode prog_8_method_10_code 1 = .ok (.iload_n 2, 1) ∧ decode prog_8_method_10_code 2 = .ok (.invokestatic 56, 3) ∧ decode prog_8_method_10_code 5 = .ok (.istore 4, 2) ∧ decode prog_8_method_10_code 7 = .ok (.iload 4, 2) ∧ decode prog_8_method_10_code 9 = .ok (.bipush 32, 2) ∧ decode prog_8_method_10_code 11 = .ok (.if_icmp .eq 10, 3) ∧ decode prog_8_method_10_code 14 = .ok (.iload 4, 2) ∧ decode prog_8_method_10_code 16 = .ok (.bipush 10, 2) ∧ decode prog_8_method_10_code 18 = .ok (.if_icmp .ne 7, 3) ∧ decode prog_8_method_10_code 21 = .ok (.iload_n 2, 1) ∧ decode prog_8_method_10_code 22 = .ok (.iconst 1, 1) := by decide +kernel
theorem e1_Tk_readToken : decode prog_8_method_10_code 23 = .ok (.iadd, 1) ∧ decode prog_8_method_10_code 24 = .ok (.ireturn, 1) ∧ decode prog_8_method_10_code 25 = .ok (.iload 4, 2) ∧ decode prog_8_method_10_code 27 = .ok (.invokestatic 60, 3) ∧ decode prog_8_method_10_code 30 = .ok (.ifCond .eq 11, 3) ∧ decode prog_8_method_10_code 33 = .ok (.aload_n 0, 1) ∧ decode prog_8_method_10_code 34 = .ok (.aload_n 1, 1) ∧ decode prog_8_method_10_code 35 = .ok (.iload_n 2, 1) ∧ decode prog_8_method_10_code 36 = .ok (.iload_n 3, 1) ∧ decode prog_8_method_10_code 37 = .ok (.invokevirtual 63, 3) ∧ decode prog_8_method_10_code 40 = .ok (.ireturn, 1) ∧ decode prog_8_method_10_code 41 = .ok (.iload 4, 2) := by decide +kernel
theorem e2_Tk_readToken : decode prog_8_method_10_code 43 = .ok (.invokestatic 66, 3) ∧ decode prog_8_method_10_code 46 = .ok (.ifCond .eq 11, 3) ∧ decode prog_8_method_10_code 49 = .ok (.aload_n 0, 1) ∧ decode prog_8_method_10_code 50 = .ok (.aload_n 1, 1) ∧ decode prog_8_method_10_code 51 = .ok (.iload_n 2, 1) ∧ decode prog_8_method_10_code 52 = .ok (.iload_n 3, 1) ∧ decode prog_8_method_10_code 53 = .ok (.invokevirtual 69, 3) ∧ decode prog_8_method_10_code 56 = .ok (.ireturn, 1) ∧ decode prog_8_method_10_code 57 = .ok (.aload_n 0, 1) ∧ decode prog_8_method_10_code 58 = .ok (.ldc 72, 2) ∧ decode prog_8_method_10_code 60 = .ok (.iload 4, 2) ∧ decode prog_8_method_10_code 62 = .ok (.i2c, 1) := by decide +kernel
theorem e3_Tk_readToken : decode prog_8_method_10_code 63 = .ok (.invokevirtual 74, 3) ∧ decode prog_8_method_10_code 66 = .ok (.ifCond .lt 8, 3) ∧ decode prog_8_method_10_code 69 = .ok (.iload 4, 2) ∧ decode prog_8_method_10_code 71 = .ok (.goto 6, 3) ∧ decode prog_8_method_10_code 74 = .ok (.sipush 257, 3) ∧ decode prog_8_method_10_code 77 = .ok (.iconst 0, 1) ∧ decode prog_8_method_10_code 78 = .ok (.iload_n 2, 1) ∧ decode prog_8_method_10_code 79 = .ok (.invokevirtual 38, 3) ∧ decode prog_8_method_10_code 82 = .ok (.iload_n 2, 1) ∧ decode prog_8_method_10_code 83 = .ok (.iconst 1, 1) ∧ decode prog_8_method_10_code 84 = .ok (.iadd, 1) ∧ decode prog_8_method_10_code 85 = .ok (.ireturn, 1) := by decide +kernel
def T_Tk_readToken : TT := [(0, o_ald 1 1), (1, o_ild 2 2), (2, o_call M_Tk_byteAt 2 5), (5, o_ist 4 7), (7, o_ild 4 9), (9, o_push (.int (iI (32))) 11), (11, o_icmp_eq 21 14), (14, o_ild 4 16), (16, o_push (.int (iI (10))) 18), (18, o_icmp_ne 25 21), (21, o_ild 2 22), (22, o_push (.int (iI (1))) 23), (23, o_iadd 24), (24, o_iret), (25, o_ild 4 27), (27, o_call M_Tk_isLetter 1 30), (30, o_if_eq 41 33), (33, o_ald 0 34), (34, o_ald 1 35), (35, o_ild 2 36), (36, o_ild 3 37), (37, o_callV M_Tk_readWord 4 4 40), (40, o_iret), (41, o_ild 4 43), (43, o_call M_Tk_isDigit 1 46), (46, o_if_eq 57 49), (49, o_ald 0 50), (50, o_ald 1 51), (51, o_ild 2 52), (52, o_ild 3 53), (53, o_callV M_Tk_readNumeral 4 4 56), (56, o_iret), (57, o_ald 0 58), (58, o_push (.ref 1000) 60), (60, o_ild 4 62), (62, o_i2c 63), (63, o_callVS M_jStr_indexOf_I 2 66), (66, o_if_lt 74 69), (69, o_ild 4 71), (71, o_goto 77), (74, o_push (.int (iI (257))) 77), (77, o_push (.int (iI (0))) 78), (78, o_ild 2 79), (79, o_callV M_Tk_add 4 4 82), (82, o_ild 2 83), (83, o_push (.int (iI (1))) 84), (84, o_iadd 85), (85, o_iret)]
theorem k_Tk_readToken : ∀ x ∈ T_Tk_readToken, SO M_Tk_readToken x.1 x.2 := by
  obtain ⟨h0, h1, h2, h5, h7, h9, h11, h14, h16, h18, h21, h22⟩ := e0_Tk_readToken
  obtain ⟨h23, h24, h25, h27, h30, h33, h34, h35, h36, h37, h40, h41⟩ := e1_Tk_readToken
  obtain ⟨h43, h46, h49, h50, h51, h52, h53, h56, h57, h58, h60, h62⟩ := e2_Tk_readToken
  obtain ⟨h63, h66, h69, h71, h74, h77, h78, h79, h82, h83, h84, h85⟩ := e3_Tk_readToken
  refine ac (s_aldn (M := M_Tk_readToken) (pc := 0) (k := 1) h0) ?_
  refine ac (s_ildn (M := M_Tk_readToken) (pc := 1) (k := 2) h1) ?_
  refine ac (s_callS (M := M_Tk_readToken) (pc := 2) (tz_Tk rfl) h2 q_Tk_byteAt wd742 wd743) ?_
  refine ac (s_ist (M := M_Tk_readToken) (pc := 5) h5 (by decide)) ?_
  refine ac (s_ild (M := M_Tk_readToken) (pc := 7) h7) ?_
  refine ac (s_bipush (M := M_Tk_readToken) (pc := 9) h9 (by decide)) ?_
  refine ac (s_icmp_eq (M := M_Tk_readToken) (pc := 11) h11 (by decide)) ?_
  refine ac (s_ild (M := M_Tk_readToken) (pc := 14) h14) ?_
  refine ac (s_bipush (M := M_Tk_readToken) (pc := 16) h16 (by decide)) ?_
  refine ac (s_icmp_ne (M := M_Tk_readToken) (pc := 18) h18 (by decide)) ?_
  refine ac (s_ildn (M := M_Tk_readToken) (pc := 21) (k := 2) h21) ?_
  refine ac (s_iconst (M := M_Tk_readToken) (pc := 22) h22 rfl) ?_
  refine ac (s_iadd (M := M_Tk_readToken) (pc := 23) h23) ?_
  refine ac (s_iret (M := M_Tk_readToken) (pc := 24) h24 rfl) ?_
  refine ac (s_ild (M := M_Tk_readToken) (pc := 25) h25) ?_
  refine ac (s_callS (M := M_Tk_readToken) (pc := 27) (tz_Tk rfl) h27 q_Tk_isLetter wd745 wd746) ?_
  refine ac (s_if_eq (M := M_Tk_readToken) (pc := 30) h30 (by decide)) ?_
  refine ac (s_aldn (M := M_Tk_readToken) (pc := 33) (k := 0) h33) ?_
  refine ac (s_aldn (M := M_Tk_readToken) (pc := 34) (k := 1) h34) ?_
  refine ac (s_ildn (M := M_Tk_readToken) (pc := 35) (k := 2) h35) ?_
  refine ac (s_ildn (M := M_Tk_readToken) (pc := 36) (k := 3) h36) ?_
  refine ac (s_callV (M := M_Tk_readToken) (pc := 37) (tz_Tk rfl) h37 q_Tk_readWord wd748 wd750 wd8 rfl (T := TX6) (N := 7) rfl) ?_
  refine ac (s_iret (M := M_Tk_readToken) (pc := 40) h40 rfl) ?_
  refine ac (s_ild (M := M_Tk_readToken) (pc := 41) h41) ?_
  refine ac (s_callS (M := M_Tk_readToken) (pc := 43) (tz_Tk rfl) h43 q_Tk_isDigit wd771 wd772) ?_
  refine ac (s_if_eq (M := M_Tk_readToken) (pc := 46) h46 (by decide)) ?_
  refine ac (s_aldn (M := M_Tk_readToken) (pc := 49) (k := 0) h49) ?_
  refine ac (s_aldn (M := M_Tk_readToken) (pc := 50) (k := 1) h50) ?_
  refine ac (s_ildn (M := M_Tk_readToken) (pc := 51) (k := 2) h51) ?_
  refine ac (s_ildn (M := M_Tk_readToken) (pc := 52) (k := 3) h52) ?_
  refine ac (s_callV (M := M_Tk_readToken) (pc := 53) (tz_Tk rfl) h53 q_Tk_readNumeral wd774 wd776 wd10 rfl (T := TX6) (N := 7) rfl) ?_
  refine ac (s_iret (M := M_Tk_readToken) (pc := 56) h56 rfl) ?_
  refine ac (s_aldn (M := M_Tk_readToken) (pc := 57) (k := 0) h57) ?_
  refine ac (s_ldcS (M := M_Tk_readToken) (pc := 58) (i := 0) h58 rfl) ?_
  refine ac (s_ild (M := M_Tk_readToken) (pc := 60) h60) ?_
  refine ac (s_i2c (M := M_Tk_readToken) (pc := 62) h62) ?_
  refine ac (s_callVS (M := M_Tk_readToken) (pc := 63) (tz_Tk rfl) h63 q_jStr_indexOf_I rfl wd779 wd780 wd781) ?_
  refine ac (s_if_lt (M := M_Tk_readToken) (pc := 66) h66 (by decide)) ?_
  refine ac (s_ild (M := M_Tk_readToken) (pc := 69) h69) ?_
  refine ac (s_goto (M := M_Tk_readToken) (pc := 71) h71 (by decide)) ?_
  refine ac (s_sipush (M := M_Tk_readToken) (pc := 74) h74 (by decide)) ?_
  refine ac (s_iconst (M := M_Tk_readToken) (pc := 77) h77 rfl) ?_
  refine ac (s_ildn (M := M_Tk_readToken) (pc := 78) (k := 2) h78) ?_
  refine ac (s_callV (M := M_Tk_readToken) (pc := 79) (tz_Tk rfl) h79 q_Tk_add wd752 wd754 wd9 rfl (T := TX6) (N := 7) rfl) ?_
  refine ac (s_ildn (M := M_Tk_readToken) (pc := 82) (k := 2) h82) ?_
  refine ac (s_iconst (M := M_Tk_readToken) (pc := 83) h83 rfl) ?_
  refine ac (s_iadd (M := M_Tk_readToken) (pc := 84) h84) ?_
  refine ac (s_iret (M := M_Tk_readToken) (pc := 85) h85 rfl) ?_
  exact ac_nil
theorem e0_Tk_isWord : decode prog_8_method_14_code 0 = .ok (.iload_n 2, 1) ∧ decode prog_8_method_14_code 1 = .ok (.iload_n 1, 1) ∧ decode prog_8_method_14_code 2 = .ok (.isub, 1) ∧ decode prog_8_method_14_code 3 = .ok (.aload_n 3, 1) ∧ decode prog_8_method_14_code 4 = .ok (.invokevirtual 101, 3) ∧ decode prog_8_method_14_code 7 = .ok (.if_icmp .eq 5, 3) ∧ decode prog_8_method_14_code 10 = .ok (.iconst 0, 1) ∧ decode prog_8_method_14_code 11 = .ok (.ireturn, 1) ∧ decode prog_8_method_14_code 12 = .ok (.iconst 0, 1) ∧ decode prog_8_method_14_code 13 = .ok (.istore 4, 2) ∧ decode prog_8_method_14_code 15 = .ok (.iload 4, 2) ∧ decode prog_8_method_14_code 17 = .ok (.aload_n 3, 1) := by decide +kernel
theorem e1_Tk_isWord : decode prog_8_method_14_code 18 = .ok (.invokevirtual 101, 3) ∧ decode prog_8_method_14_code 21 = .ok (.if_icmp .ge 28, 3) ∧ decode prog_8_method_14_code 24 = .ok (.aload_n 0, 1) ∧ decode prog_8_method_14_code 25 = .ok (.iload_n 1, 1) ∧ decode prog_8_method_14_code 26 = .ok (.iload 4, 2) ∧ decode prog_8_method_14_code 28 = .ok (.iadd, 1) ∧ decode prog_8_method_14_code 29 = .ok (.invokestatic 56, 3) ∧ decode prog_8_method_14_code 32 = .ok (.aload_n 3, 1) ∧ decode prog_8_method_14_code 33 = .ok (.iload 4, 2) ∧ decode prog_8_method_14_code 35 = .ok (.invokevirtual 104, 3) ∧ decode prog_8_method_14_code 38 = .ok (.if_icmp .eq 5, 3) ∧ decode prog_8_method_14_code 41 = .ok (.iconst 0, 1) := by decide +kernel
theorem e2_Tk_isWord : decode prog_8_method_14_code 42 = .ok (.ireturn, 1) ∧ decode prog_8_method_14_code 43 = .ok (.iinc 4 1, 3) ∧ decode prog_8_method_14_code 46 = .ok (.goto (-31), 3) ∧ decode prog_8_method_14_code 49 = .ok (.iconst 1, 1) ∧ decode prog_8_method_14_code 50 = .ok (.ireturn, 1) := by decide +kernel
def T_Tk_isWord : TT := [(0, o_ild 2 1), (1, o_ild 1 2), (2, o_isub 3), (3, o_ald 3 4), (4, o_callVS M_jStr_length 1 7), (7, o_icmp_eq 12 10), (10, o_push (.int (iI (0))) 11), (11, o_zret), (12, o_push (.int (iI (0))) 13), (13, o_ist 4 15), (15, o_ild 4 17), (17, o_ald 3 18), (18, o_callVS M_jStr_length 1 21), (21, o_icmp_ge 49 24), (24, o_ald 0 25), (25, o_ild 1 26), (26, o_ild 4 28), (28, o_iadd 29), (29, o_call M_Tk_byteAt 2 32), (32, o_ald 3 33), (33, o_ild 4 35), (35, o_callVS M_jStr_charAt 2 38), (38, o_icmp_eq 43 41), (41, o_push (.int (iI (0))) 42), (42, o_zret), (43, o_iinc 4 (iI (1)) 46), (46, o_goto 15), (49, o_push (.int (iI (1))) 50), (50, o_zret)]
theorem k_Tk_isWord : ∀ x ∈ T_Tk_isWord, SO M_Tk_isWord x.1 x.2 := by
  obtain ⟨h0, h1, h2, h3, h4, h7, h10, h11, h12, h13, h15, h17⟩ := e0_Tk_isWord
  obtain ⟨h18, h21, h24, h25, h26, h28, h29, h32, h33, h35, h38, h41⟩ := e1_Tk_isWord
  obtain ⟨h42, h43, h46, h49, h50⟩ := e2_Tk_isWord
  refine ac (s_ildn (M := M_Tk_isWord) (pc := 0) (k := 2) h0) ?_
  refine ac (s_ildn (M := M_Tk_isWord) (pc := 1) (k := 1) h1) ?_
  refine ac (s_isub (M := M_Tk_isWord) (pc := 2) h2) ?_
  refine ac (s_aldn (M := M_Tk_isWord) (pc := 3) (k := 3) h3) ?_
  refine ac (s_callVS (M := M_Tk_isWord) (pc := 4) (tz_Tk rfl) h4 q_jStr_length rfl wd763 wd672 wd673) ?_
  refine ac (s_icmp_eq (M := M_Tk_isWord) (pc := 7) h7 (by decide)) ?_
  refine ac (s_iconst (M := M_Tk_isWord) (pc := 10) h10 rfl) ?_
  refine ac (s_zret (M := M_Tk_isWord) (pc := 11) h11 rfl) ?_
  refine ac (s_iconst (M := M_Tk_isWord) (pc := 12) h12 rfl) ?_
  refine ac (s_ist (M := M_Tk_isWord) (pc := 13) h13 (by decide)) ?_
  refine ac (s_ild (M := M_Tk_isWord) (pc := 15) h15) ?_
  refine ac (s_aldn (M := M_Tk_isWord) (pc := 17) (k := 3) h17) ?_
  refine ac (s_callVS (M := M_Tk_isWord) (pc := 18) (tz_Tk rfl) h18 q_jStr_length rfl wd763 wd672 wd673) ?_
  refine ac (s_icmp_ge (M := M_Tk_isWord) (pc := 21) h21 (by decide)) ?_
  refine ac (s_aldn (M := M_Tk_isWord) (pc := 24) (k := 0) h24) ?_
  refine ac (s_ildn (M := M_Tk_isWord) (pc := 25) (k := 1) h25) ?_
  refine ac (s_ild (M := M_Tk_isWord) (pc := 26) h26) ?_
  refine ac (s_iadd (M := M_Tk_isWord) (pc := 28) h28) ?_
  refine ac (s_callS (M := M_Tk_isWord) (pc := 29) (tz_Tk rfl) h29 q_Tk_byteAt wd742 wd743) ?_
  refine ac (s_aldn (M := M_Tk_isWord) (pc := 32) (k := 3) h32) ?_
  refine ac (s_ild (M := M_Tk_isWord) (pc := 33) h33) ?_
  refine ac (s_callVS (M := M_Tk_isWord) (pc := 35) (tz_Tk rfl) h35 q_jStr_charAt rfl wd764 wd681 wd682) ?_
  refine ac (s_icmp_eq (M := M_Tk_isWord) (pc := 38) h38 (by decide)) ?_
  refine ac (s_iconst (M := M_Tk_isWord) (pc := 41) h41 rfl) ?_
  refine ac (s_zret (M := M_Tk_isWord) (pc := 42) h42 rfl) ?_
  refine ac (s_iinc (M := M_Tk_isWord) (pc := 43) h43 rfl (by decide)) ?_
  refine ac (s_goto (M := M_Tk_isWord) (pc := 46) h46 (by decide)) ?_
  refine ac (s_iconst (M := M_Tk_isWord) (pc := 49) h49 rfl) ?_
  refine ac (s_zret (M := M_Tk_isWord) (pc := 50) h50 rfl) ?_
  exact ac_nil
