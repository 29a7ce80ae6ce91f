theorem e0_jSB_init_v : decode prog_28_method_1_code 0 = .ok (.aload_n 0, 1) ∧ decode prog_28_method_1_code 1 = .ok (.bipush 16, 2) ∧ decode prog_28_method_1_code 3 = .ok (.invokespecial 1, 3) ∧ decode prog_28_method_1_code 6 = .ok (.return_, 1) := by decide +kernel
def T_jSB_init_v : TT := [(0, o_ald 0 1), (1, o_push (.int (iI (16))) 3), (3, o_callI M_jASB_init_I 2 1 16 6), (6, o_vret)]
theorem k_jSB_init_v : ∀ x ∈ T_jSB_init_v, SO M_jSB_init_v x.1 x.2 := by
  obtain ⟨h0, h1, h3, h6⟩ := e0_jSB_init_v
  refine ac (s_aldn (M := M_jSB_init_v) (pc := 0) (k := 0) h0) ?_
  refine ac (s_bipush (M := M_jSB_init_v) (pc := 1) h1 (by decide)) ?_
  refine ac (s_callI (M := M_jSB_init_v) (pc := 3) (mc1 := 1) (ms1 := 16) (tz_jSB rfl) h3 q_jASB_init_I rfl rfl wd224 wd225) ?_
  refine ac (s_vret (M := M_jSB_init_v) (pc := 6) h6 rfl) ?_
  exact ac_nil
theorem e0_jASB_init_I : decode prog_12_method_2_code 0 = .ok (.aload_n 0, 1) ∧ decode prog_12_method_2_code 1 = .ok (.invokespecial 3, 3) ∧ decode prog_12_method_2_code 4 = .ok (.getstatic 18, 3) ∧ decode prog_12_method_2_code 7 = .ok (.ifCond .eq 18, 3) ∧ decode prog_12_method_2_code 10 = .ok (.aload_n 0, 1) ∧ decode prog_12_method_2_code 11 = .ok (.iload_n 1, 1) ∧ decode prog_12_method_2_code 12 = .ok (.newarray .byte, 2) ∧ decode prog_12_method_2_code 14 = .ok (.putfield 15, 3) ∧ decode prog_12_method_2_code 17 = .ok (.aload_n 0, 1) ∧ decode prog_12_method_2_code 18 = .ok (.iconst 0, 1) ∧ decode prog_12_method_2_code 19 = .ok (.putfield 22, 3) ∧ decode prog_12_method_2_code 22 = .ok (.goto 16, 3) := by decide +kernel
theorem e1_jASB_init_I : decode prog_12_method_2_code 25 = .ok (.aload_n 0, 1) ∧ decode prog_12_method_2_code 26 = .ok (.iload_n 1, 1) ∧ decode prog_12_method_2_code 27 = .ok (.invokestatic 26, 3) ∧ decode prog_12_method_2_code 30 = .ok (.putfield 15, 3) ∧ decode prog_12_method_2_code 33 = .ok (.aload_n 0, 1) ∧ decode prog_12_method_2_code 34 = .ok (.iconst 1, 1) ∧ decode prog_12_method_2_code 35 = .ok (.putfield 22, 3) ∧ decode prog_12_method_2_code 38 = .ok (.return_, 1) := by decide +kernel
def T_jASB_init_I : TT := [(0, o_ald 0 1), (1, o_oinit 4), (4, o_push (.int (iI 1)) 7), (7, o_if_eq 25 10), (10, o_ald 0 11), (11, o_ild 1 12), (12, o_newai 0 14), (14, o_putr 9 0 17), (17, o_ald 0 18), (18, o_push (.int (iI (0))) 19), (19, o_putb 9 1 22), (22, o_goto 38), (25, o_ald 0 26), (26, o_ild 1 27), (27, o_call M_jU16_newBytesFor 1 30), (30, o_putr 9 0 33), (33, o_ald 0 34), (34, o_push (.int (iI (1))) 35), (35, o_putb 9 1 38), (38, o_vret)]
theorem k_jASB_init_I : ∀ x ∈ T_jASB_init_I, SO M_jASB_init_I x.1 x.2 := by
  obtain ⟨h0, h1, h4, h7, h10, h11, h12, h14, h17, h18, h19, h22⟩ := e0_jASB_init_I
  obtain ⟨h25, h26, h27, h30, h33, h34, h35, h38⟩ := e1_jASB_init_I
  refine ac (s_aldn (M := M_jASB_init_I) (pc := 0) (k := 0) h0) ?_
  refine ac (s_oinit (M := M_jASB_init_I) (pc := 1) h1 wd227 wd56 wd57) ?_
  refine ac (s_getC (M := M_jASB_init_I) (pc := 4) h4 wd228) ?_
  refine ac (s_if_eq (M := M_jASB_init_I) (pc := 7) h7 (by decide)) ?_
  refine ac (s_aldn (M := M_jASB_init_I) (pc := 10) (k := 0) h10) ?_
  refine ac (s_ildn (M := M_jASB_init_I) (pc := 11) (k := 1) h11) ?_
  refine ac (s_newai (M := M_jASB_init_I) (pc := 12) (t := 0) h12 rfl (fun _ => rfl) wd96 (by decide) (fun _ _ => rfl)) ?_
  refine ac (s_putr (M := M_jASB_init_I) (pc := 14) (T := TJ4) (N := 4) (ty0 := tyJ4) h14 ⟨rfl, in_J4, by decide, wd237, tyJ4_ok, nmJ4, (Or.inl rfl)⟩ (Or.inr ⟨_, rfl⟩)) ?_
  refine ac (s_aldn (M := M_jASB_init_I) (pc := 17) (k := 0) h17) ?_
  refine ac (s_iconst (M := M_jASB_init_I) (pc := 18) h18 rfl) ?_
  refine ac (s_putb (M := M_jASB_init_I) (pc := 19) (T := TJ4) (N := 4) (ty0 := tyJ4) h19 ⟨rfl, in_J4, by decide, wd238, tyJ4_ok, nmJ4, (Or.inl rfl)⟩ rfl) ?_
  refine ac (s_goto (M := M_jASB_init_I) (pc := 22) h22 (by decide)) ?_
  refine ac (s_aldn (M := M_jASB_init_I) (pc := 25) (k := 0) h25) ?_
  refine ac (s_ildn (M := M_jASB_init_I) (pc := 26) (k := 1) h26) ?_
  refine ac (s_callS (M := M_jASB_init_I) (pc := 27) (tz_jASB rfl) h27 q_jU16_newBytesFor wd230 wd231) ?_
  refine ac (s_putr (M := M_jASB_init_I) (pc := 30) (T := TJ4) (N := 4) (ty0 := tyJ4) h30 ⟨rfl, in_J4, by decide, wd237, tyJ4_ok, nmJ4, (Or.inl rfl)⟩ (Or.inr ⟨_, rfl⟩)) ?_
  refine ac (s_aldn (M := M_jASB_init_I) (pc := 33) (k := 0) h33) ?_
  refine ac (s_iconst (M := M_jASB_init_I) (pc := 34) h34 rfl) ?_
  refine ac (s_putb (M := M_jASB_init_I) (pc := 35) (T := TJ4) (N := 4) (ty0 := tyJ4) h35 ⟨rfl, in_J4, by decide, wd238, tyJ4_ok, nmJ4, (Or.inl rfl)⟩ rfl) ?_
  refine ac (s_vret (M := M_jASB_init_I) (pc := 38) h38 rfl) ?_
  exact ac_nil
theorem e0_jStr_length : decode prog_27_method_54_code 0 = .ok (.aload_n 0, 1) ∧ decode prog_27_method_54_code 1 = .ok (.getfield 9, 3) ∧ decode prog_27_method_54_code 4 = .ok (.arraylength, 1) ∧ decode prog_27_method_54_code 5 = .ok (.aload_n 0, 1) ∧ decode prog_27_method_54_code 6 = .ok (.invokevirtual 335, 3) ∧ decode prog_27_method_54_code 9 = .ok (.ishr, 1) ∧ decode prog_27_method_54_code 10 = .ok (.ireturn, 1) := by decide +kernel
def T_jStr_length : TT := [(0, o_ald 0 1), (1, o_getSv 4), (4, o_alenX 5), (5, o_ald 0 6), (6, o_callVS M_jStr_coder 1 9), (9, o_ishr 10), (10, o_iret)]
theorem k_jStr_length : ∀ x ∈ T_jStr_length, SO M_jStr_length x.1 x.2 := by
  obtain ⟨h0, h1, h4, h5, h6, h9, h10⟩ := e0_jStr_length
  refine ac (s_aldn (M := M_jStr_length) (pc := 0) (k := 0) h0) ?_
  refine ac (s_getSv (M := M_jStr_length) (pc := 1) h1 wd1119) ?_
  refine ac (s_alenX (M := M_jStr_length) (pc := 4) h4) ?_
  refine ac (s_aldn (M := M_jStr_length) (pc := 5) (k := 0) h5) ?_
  refine ac (s_callVS (M := M_jStr_length) (pc := 6) (tz_jStr rfl) h6 q_jStr_coder rfl wd675 wd676 wd677) ?_
  refine ac (s_ishr (M := M_jStr_length) (pc := 9) h9) ?_
  refine ac (s_iret (M := M_jStr_length) (pc := 10) h10 rfl) ?_
  exact ac_nil
theorem e0_jStr_coder : decode prog_27_method_152_code 0 = .ok (.getstatic 38, 3) ∧ decode prog_27_method_152_code 3 = .ok (.ifCond .eq 10, 3) ∧ decode prog_27_method_152_code 6 = .ok (.aload_n 0, 1) ∧ decode prog_27_method_152_code 7 = .ok (.getfield 15, 3) ∧ decode prog_27_method_152_code 10 = .ok (.goto 4, 3) ∧ decode prog_27_method_152_code 13 = .ok (.iconst 1, 1) ∧ decode prog_27_method_152_code 14 = .ok (.ireturn, 1) := by decide +kernel
def T_jStr_coder : TT := [(0, o_push (.int (iI 1)) 3), (3, o_if_eq 13 6), (6, o_ald 0 7), (7, o_getSc 10), (10, o_goto 14), (13, o_push (.int (iI (1))) 14), (14, o_nret .byte)]
theorem k_jStr_coder : ∀ x ∈ T_jStr_coder, SO M_jStr_coder x.1 x.2 := by
  obtain ⟨h0, h3, h6, h7, h10, h13, h14⟩ := e0_jStr_coder
  refine ac (s_getC (M := M_jStr_coder) (pc := 0) h0 wd679) ?_
  refine ac (s_if_eq (M := M_jStr_coder) (pc := 3) h3 (by decide)) ?_
  refine ac (s_aldn (M := M_jStr_coder) (pc := 6) (k := 0) h6) ?_
  refine ac (s_getSc (M := M_jStr_coder) (pc := 7) h7 wd1120) ?_
  refine ac (s_goto (M := M_jStr_coder) (pc := 10) h10 (by decide)) ?_
  refine ac (s_iconst (M := M_jStr_coder) (pc := 13) h13 rfl) ?_
  refine ac (s_nret (M := M_jStr_coder) (pc := 14) h14 rfl) ?_
  exact ac_nil
theorem e0_jStr_charAt : decode prog_27_method_56_code 0 = .ok (.aload_n 0, 1) ∧ decode prog_27_method_56_code 1 = .ok (.invokevirtual 492, 3) ∧ decode prog_27_method_56_code 4 = .ok (.ifCond .eq 12, 3) ∧ decode prog_27_method_56_code 7 = .ok (.aload_n 0, 1) ∧ decode prog_27_method_56_code 8 = .ok (.getfield 9, 3) ∧ decode prog_27_method_56_code 11 = .ok (.iload_n 1, 1) ∧ decode prog_27_method_56_code 12 = .ok (.invokestatic 495, 3) ∧ decode prog_27_method_56_code 15 = .ok (.ireturn, 1) ∧ decode prog_27_method_56_code 16 = .ok (.aload_n 0, 1) ∧ decode prog_27_method_56_code 17 = .ok (.getfield 9, 3) ∧ decode prog_27_method_56_code 20 = .ok (.iload_n 1, 1) ∧ decode prog_27_method_56_code 21 = .ok (.invokestatic 498, 3) := by decide +kernel
theorem e1_jStr_charAt : decode prog_27_method_56_code 24 = .ok (.ireturn, 1) := by decide +kernel
def T_jStr_charAt : TT := [(0, o_ald 0 1), (1, o_callVS M_jStr_isLatin1 1 4), (4, o_if_eq 16 7), (7, o_ald 0 8), (8, o_getSv 11), (11, o_ild 1 12), (12, o_call M_jLat_charAt 2 15), (15, o_nret .char), (16, o_ald 0 17), (17, o_getSv 20), (20, o_ild 1 21), (21, o_call M_jU16_charAt 2 24), (24, o_nret .char)]
theorem k_jStr_charAt : ∀ x ∈ T_jStr_charAt, SO M_jStr_charAt x.1 x.2 := by
  obtain ⟨h0, h1, h4, h7, h8, h11, h12, h15, h16, h17, h20, h21⟩ := e0_jStr_charAt
  have h24 := e1_jStr_charAt
  refine ac (s_aldn (M := M_jStr_charAt) (pc := 0) (k := 0) h0) ?_
  refine ac (s_callVS (M := M_jStr_charAt) (pc := 1) (tz_jStr rfl) h1 q_jStr_isLatin1 rfl wd684 wd685 wd686) ?_
  refine ac (s_if_eq (M := M_jStr_charAt) (pc := 4) h4 (by decide)) ?_
  refine ac (s_aldn (M := M_jStr_charAt) (pc := 7) (k := 0) h7) ?_
  refine ac (s_getSv (M := M_jStr_charAt) (pc := 8) h8 wd1119) ?_
  refine ac (s_ildn (M := M_jStr_charAt) (pc := 11) (k := 1) h11) ?_
  refine ac (s_callS (M := M_jStr_charAt) (pc := 12) (tz_jStr rfl) h12 q_jLat_charAt wd688 wd689) ?_
  refine ac (s_nret (M := M_jStr_charAt) (pc := 15) h15 rfl) ?_
  refine ac (s_aldn (M := M_jStr_charAt) (pc := 16) (k := 0) h16) ?_
  refine ac (s_getSv (M := M_jStr_charAt) (pc := 17) h17 wd1119) ?_
  refine ac (s_ildn (M := M_jStr_charAt) (pc := 20) (k := 1) h20) ?_
  refine ac (s_callS (M := M_jStr_charAt) (pc := 21) (tz_jStr rfl) h21 q_jU16_charAt wd699 wd700) ?_
  refine ac (s_nret (M := M_jStr_charAt) (pc := 24) h24 rfl) ?_
  exact ac_nil
theorem e0_jStr_isLatin1 : decode prog_27_method_154_code 0 = .ok (.getstatic 38, 3) ∧ decode prog_27_method_154_code 3 = .ok (.ifCond .eq 14, 3) ∧ decode prog_27_method_154_code 6 = .ok (.aload_n 0, 1) ∧ decode prog_27_method_154_code 7 = .ok (.getfield 15, 3) ∧ decode prog_27_method_154_code 10 = .ok (.ifCond .ne 7, 3) ∧ decode prog_27_method_154_code 13 = .ok (.iconst 1, 1) ∧ decode prog_27_method_154_code 14 = .ok (.goto 4, 3) ∧ decode prog_27_method_154_code 17 = .ok (.iconst 0, 1) ∧ decode prog_27_method_154_code 18 = .ok (.ireturn, 1) := by decide +kernel
def T_jStr_isLatin1 : TT := [(0, o_push (.int (iI 1)) 3), (3, o_if_eq 17 6), (6, o_ald 0 7), (7, o_getSc 10), (10, o_if_ne 17 13), (13, o_push (.int (iI (1))) 14), (14, o_goto 18), (17, o_push (.int (iI (0))) 18), (18, o_zret)]
theorem k_jStr_isLatin1 : ∀ x ∈ T_jStr_isLatin1, SO M_jStr_isLatin1 x.1 x.2 := by
  obtain ⟨h0, h3, h6, h7, h10, h13, h14, h17, h18⟩ := e0_jStr_isLatin1
  refine ac (s_getC (M := M_jStr_isLatin1) (pc := 0) h0 wd679) ?_
  refine ac (s_if_eq (M := M_jStr_isLatin1) (pc := 3) h3 (by decide)) ?_
  refine ac (s_aldn (M := M_jStr_isLatin1) (pc := 6) (k := 0) h6) ?_
  refine ac (s_getSc (M := M_jStr_isLatin1) (pc := 7) h7 wd1120) ?_
  refine ac (s_if_ne (M := M_jStr_isLatin1) (pc := 10) h10 (by decide)) ?_
  refine ac (s_iconst (M := M_jStr_isLatin1) (pc := 13) h13 rfl) ?_
  refine ac (s_goto (M := M_jStr_isLatin1) (pc := 14) h14 (by decide)) ?_
  refine ac (s_iconst (M := M_jStr_isLatin1) (pc := 17) h17 rfl) ?_
  refine ac (s_zret (M := M_jStr_isLatin1) (pc := 18) h18 rfl) ?_
  exact ac_nil
theorem e0_jLat_charAt : decode prog_29_method_2_code 0 = .ok (.iload_n 1, 1) ∧ decode prog_29_method_2_code 1 = .ok (.aload_n 0, 1) ∧ decode prog_29_method_2_code 2 = .ok (.arraylength, 1) ∧ decode prog_29_method_2_code 3 = .ok (.invokestatic 9, 3) ∧ decode prog_29_method_2_code 6 = .ok (.aload_n 0, 1) ∧ decode prog_29_method_2_code 7 = .ok (.iload_n 1, 1) ∧ decode prog_29_method_2_code 8 = .ok (.baload, 1) ∧ decode prog_29_method_2_code 9 = .ok (.sipush 255, 3) ∧ decode prog_29_method_2_code 12 = .ok (.iand, 1) ∧ decode prog_29_method_2_code 13 = .ok (.i2c, 1) ∧ decode prog_29_method_2_code 14 = .ok (.ireturn, 1) := by decide +kernel
def T_jLat_charAt : TT := [(0, o_ild 1 1), (1, o_ald 0 2), (2, o_alenX 3), (3, o_call M_jStr_checkIndex 2 6), (6, o_ald 0 7), (7, o_ild 1 8), (8, o_baldX 9), (9, o_push (.int (iI (255))) 12), (12, o_iand 13), (13, o_i2c 14), (14, o_nret .char)]
theorem k_jLat_charAt : ∀ x ∈ T_jLat_charAt, SO M_jLat_charAt x.1 x.2 := by
  obtain ⟨h0, h1, h2, h3, h6, h7, h8, h9, h12, h13, h14⟩ := e0_jLat_charAt
  refine ac (s_ildn (M := M_jLat_charAt) (pc := 0) (k := 1) h0) ?_
  refine ac (s_aldn (M := M_jLat_charAt) (pc := 1) (k := 0) h1) ?_
  refine ac (s_alenX (M := M_jLat_charAt) (pc := 2) h2) ?_
  refine ac (s_callS (M := M_jLat_charAt) (pc := 3) (tz_jLat rfl) h3 q_jStr_checkIndex wd691 wd692) ?_
  refine ac (s_aldn (M := M_jLat_charAt) (pc := 6) (k := 0) h6) ?_
  refine ac (s_ildn (M := M_jLat_charAt) (pc := 7) (k := 1) h7) ?_
  refine ac (s_baldX (M := M_jLat_charAt) (pc := 8) h8) ?_
  refine ac (s_sipush (M := M_jLat_charAt) (pc := 9) h9 (by decide)) ?_
  refine ac (s_iand (M := M_jLat_charAt) (pc := 12) h12) ?_
  refine ac (s_i2c (M := M_jLat_charAt) (pc := 13) h13) ?_
  refine ac (s_nret (M := M_jLat_charAt) (pc := 14) h14 rfl) ?_
  exact ac_nil
theorem e0_jStr_checkIndex : decode prog_27_method_155_code 0 = .ok (.iload_n 0, 1) ∧ decode prog_27_method_155_code 1 = .ok (.iload_n 1, 1) ∧ decode prog_27_method_155_code 2 = .ok (.getstatic 1053, 3) ∧ decode prog_27_method_155_code 5 = .ok (.invokestatic 1059, 3) ∧ decode prog_27_method_155_code 8 = .ok (.pop, 1) ∧ decode prog_27_method_155_code 9 = .ok (.return_, 1) := by decide +kernel
def T_jStr_checkIndex : TT := [(0, o_ild 0 1), (1, o_ild 1 2), (2, o_getSF 5), (5, o_call M_jPre_checkIndex 3 8), (8, o_pop 9), (9, o_vret)]
theorem k_jStr_checkIndex : ∀ x ∈ T_jStr_checkIndex, SO M_jStr_checkIndex x.1 x.2 := by
  obtain ⟨h0, h1, h2, h5, h8, h9⟩ := e0_jStr_checkIndex
  refine ac (s_ildn (M := M_jStr_checkIndex) (pc := 0) (k := 0) h0) ?_
  refine ac (s_ildn (M := M_jStr_checkIndex) (pc := 1) (k := 1) h1) ?_
  refine ac (s_getSF (M := M_jStr_checkIndex) (pc := 2) h2 wd694) ?_
  refine ac (s_callS (M := M_jStr_checkIndex) (pc := 5) (tz_jStr rfl) h5 q_jPre_checkIndex wd696 wd697) ?_
  refine ac (s_pop (M := M_jStr_checkIndex) (pc := 8) h8) ?_
  refine ac (s_vret (M := M_jStr_checkIndex) (pc := 9) h9 rfl) ?_
  exact ac_nil
theorem e0_jPre_checkIndex : decode prog_38_method_11_code 0 = .ok (.iload_n 0, 1) ∧ decode prog_38_method_11_code 1 = .ok (.ifCond .lt 8, 3) ∧ decode prog_38_method_11_code 4 = .ok (.iload_n 0, 1) ∧ decode prog_38_method_11_code 5 = .ok (.iload_n 1, 1) ∧ decode prog_38_method_11_code 6 = .ok (.if_icmp .lt 10, 3) ∧ decode prog_38_method_11_code 9 = .ok (.aload_n 2, 1) ∧ decode prog_38_method_11_code 10 = .ok (.iload_n 0, 1) ∧ decode prog_38_method_11_code 11 = .ok (.iload_n 1, 1) ∧ decode prog_38_method_11_code 12 = .ok (.invokestatic 95, 3) ∧ decode prog_38_method_11_code 15 = .ok (.athrow, 1) ∧ decode prog_38_method_11_code 16 = .ok (.iload_n 0, 1) ∧ decode prog_38_method_11_code 17 = .ok (.ireturn, 1) := by decide +kernel
def T_jPre_checkIndex : TT := [(0, o_ild 0 1), (1, o_if_lt 9 4), (4, o_ild 0 5), (5, o_ild 1 6), (6, o_icmp_lt 16 9), (9, o_ald 2 10), (10, o_ild 0 11), (11, o_ild 1 12), (16, o_ild 0 17), (17, o_iret)]
theorem k_jPre_checkIndex : ∀ x ∈ T_jPre_checkIndex, SO M_jPre_checkIndex x.1 x.2 := by
  obtain ⟨h0, h1, h4, h5, h6, h9, h10, h11, h12, h15, h16, h17⟩ := e0_jPre_checkIndex
  refine ac (s_ildn (M := M_jPre_checkIndex) (pc := 0) (k := 0) h0) ?_
  refine ac (s_if_lt (M := M_jPre_checkIndex) (pc := 1) h1 (by decide)) ?_
  refine ac (s_ildn (M := M_jPre_checkIndex) (pc := 4) (k := 0) h4) ?_
  refine ac (s_ildn (M := M_jPre_checkIndex) (pc := 5) (k := 1) h5) ?_
  refine ac (s_icmp_lt (M := M_jPre_checkIndex) (pc := 6) h6 (by decide)) ?_
  refine ac (s_aldn (M := M_jPre_checkIndex) (pc := 9) (k := 2) h9) ?_
  refine ac (s_ildn (M := M_jPre_checkIndex) (pc := 10) (k := 0) h10) ?_
  refine ac (s_ildn (M := M_jPre_checkIndex) (pc := 11) (k := 1) h11) ?_
  refine ac (s_ildn (M := M_jPre_checkIndex) (pc := 16) (k := 0) h16) ?_
  refine ac (s_iret (M := M_jPre_checkIndex) (pc := 17) h17 rfl) ?_
  exact ac_nil
theorem e0_jStr_indexOf_I : decode prog_27_method_79_code 0 = .ok (.aload_n 0, 1) ∧ decode prog_27_method_79_code 1 = .ok (.iload_n 1, 1) ∧ decode prog_27_method_79_code 2 = .ok (.iconst 0, 1) ∧ decode prog_27_method_79_code 3 = .ok (.invokevirtual 633, 3) ∧ decode prog_27_method_79_code 6 = .ok (.ireturn, 1) := by decide +kernel
def T_jStr_indexOf_I : TT := [(0, o_ald 0 1), (1, o_ild 1 2), (2, o_push (.int (iI (0))) 3), (3, o_callVS M_jStr_indexOf_II 3 6), (6, o_iret)]
theorem k_jStr_indexOf_I : ∀ x ∈ T_jStr_indexOf_I, SO M_jStr_indexOf_I x.1 x.2 := by
  obtain ⟨h0, h1, h2, h3, h6⟩ := e0_jStr_indexOf_I
  refine ac (s_aldn (M := M_jStr_indexOf_I) (pc := 0) (k := 0) h0) ?_
  refine ac (s_ildn (M := M_jStr_indexOf_I) (pc := 1) (k := 1) h1) ?_
  refine ac (s_iconst (M := M_jStr_indexOf_I) (pc := 2) h2 rfl) ?_
  refine ac (s_callVS (M := M_jStr_indexOf_I) (pc := 3) (tz_jStr rfl) h3 q_jStr_indexOf_II rfl wd783 wd784 wd785) ?_
  refine ac (s_iret (M := M_jStr_indexOf_I) (pc := 6) h6 rfl) ?_
  exact ac_nil
theorem e0_jStr_indexOf_II : decode prog_27_method_80_code 0 = .ok (.aload_n 0, 1) ∧ decode prog_27_method_80_code 1 = .ok (.invokevirtual 492, 3) ∧ decode prog_27_method_80_code 4 = .ok (.ifCond .eq 19, 3) ∧ decode prog_27_method_80_code 7 = .ok (.aload_n 0, 1) ∧ decode prog_27_method_80_code 8 = .ok (.getfield 9, 3) ∧ decode prog_27_method_80_code 11 = .ok (.iload_n 1, 1) ∧ decode prog_27_method_80_code 12 = .ok (.iload_n 2, 1) ∧ decode prog_27_method_80_code 13 = .ok (.aload_n 0, 1) ∧ decode prog_27_method_80_code 14 = .ok (.invokevirtual 505, 3) ∧ decode prog_27_method_80_code 17 = .ok (.invokestatic 637, 3) ∧ decode prog_27_method_80_code 20 = .ok (.goto 16, 3) ∧ decode prog_27_method_80_code 23 = .ok (.aload_n 0, 1) := by decide +kernel
theorem e1_jStr_indexOf_II : decode prog_27_method_80_code 24 = .ok (.getfield 9, 3) ∧ decode prog_27_method_80_code 27 = .ok (.iload_n 1, 1) ∧ decode prog_27_method_80_code 28 = .ok (.iload_n 2, 1) ∧ decode prog_27_method_80_code 29 = .ok (.aload_n 0, 1) ∧ decode prog_27_method_80_code 30 = .ok (.invokevirtual 505, 3) ∧ decode prog_27_method_80_code 33 = .ok (.invokestatic 640, 3) ∧ decode prog_27_method_80_code 36 = .ok (.ireturn, 1) := by decide +kernel
def T_jStr_indexOf_II : TT := [(0, o_ald 0 1), (1, o_callVS M_jStr_isLatin1 1 4), (4, o_if_eq 23 7), (7, o_ald 0 8), (8, o_getSv 11), (11, o_ild 1 12), (12, o_ild 2 13), (13, o_ald 0 14), (14, o_callVS M_jStr_length 1 17), (17, o_call M_jLat_indexOf 4 20), (20, o_goto 36), (23, o_ald 0 24), (24, o_getSv 27), (27, o_ild 1 28), (28, o_ild 2 29), (29, o_ald 0 30), (30, o_callVS M_jStr_length 1 33), (33, o_call M_jU16_indexOf 4 36), (36, o_iret)]
theorem k_jStr_indexOf_II : ∀ x ∈ T_jStr_indexOf_II, SO M_jStr_indexOf_II x.1 x.2 := by
  obtain ⟨h0, h1, h4, h7, h8, h11, h12, h13, h14, h17, h20, h23⟩ := e0_jStr_indexOf_II
  obtain ⟨h24, h27, h28, h29, h30, h33, h36⟩ := e1_jStr_indexOf_II
  refine ac (s_aldn (M := M_jStr_indexOf_II) (pc := 0) (k := 0) h0) ?_
  refine ac (s_callVS (M := M_jStr_indexOf_II) (pc := 1) (tz_jStr rfl) h1 q_jStr_isLatin1 rfl wd684 wd685 wd686) ?_
  refine ac (s_if_eq (M := M_jStr_indexOf_II) (pc := 4) h4 (by decide)) ?_
  refine ac (s_aldn (M := M_jStr_indexOf_II) (pc := 7) (k := 0) h7) ?_
  refine ac (s_getSv (M := M_jStr_indexOf_II) (pc := 8) h8 wd1119) ?_
  refine ac (s_ildn (M := M_jStr_indexOf_II) (pc := 11) (k := 1) h11) ?_
  refine ac (s_ildn (M := M_jStr_indexOf_II) (pc := 12) (k := 2) h12) ?_
  refine ac (s_aldn (M := M_jStr_indexOf_II) (pc := 13) (k := 0) h13) ?_
  refine ac (s_callVS (M := M_jStr_indexOf_II) (pc := 14) (tz_jStr rfl) h14 q_jStr_length rfl wd787 wd672 wd673) ?_
  refine ac (s_callS (M := M_jStr_indexOf_II) (pc := 17) (tz_jStr rfl) h17 q_jLat_indexOf wd788 wd789) ?_
  refine ac (s_goto (M := M_jStr_indexOf_II) (pc := 20) h20 (by decide)) ?_
  refine ac (s_aldn (M := M_jStr_indexOf_II) (pc := 23) (k := 0) h23) ?_
  refine ac (s_getSv (M := M_jStr_indexOf_II) (pc := 24) h24 wd1119) ?_
  refine ac (s_ildn (M := M_jStr_indexOf_II) (pc := 27) (k := 1) h27) ?_
  refine ac (s_ildn (M := M_jStr_indexOf_II) (pc := 28) (k := 2) h28) ?_
  refine ac (s_aldn (M := M_jStr_indexOf_II) (pc := 29) (k := 0) h29) ?_
  refine ac (s_callVS (M := M_jStr_indexOf_II) (pc := 30) (tz_jStr rfl) h30 q_jStr_length rfl wd787 wd672 wd673) ?_
  refine ac (s_callS (M := M_jStr_indexOf_II) (pc := 33) (tz_jStr rfl) h33 q_jU16_indexOf wd801 wd802) ?_
  refine ac (s_iret (M := M_jStr_indexOf_II) (pc := 36) h36 rfl) ?_
  exact ac_nil
theorem e0_jLat_indexOf : decode prog_29_method_22_code 0 = .ok (.iload_n 1, 1) ∧ decode prog_29_method_22_code 1 = .ok (.invokestatic 88, 3) ∧ decode prog_29_method_22_code 4 = .ok (.ifCond .ne 5, 3) ∧ decode prog_29_method_22_code 7 = .ok (.iconst (-1), 1) ∧ decode prog_29_method_22_code 8 = .ok (.ireturn, 1) ∧ decode prog_29_method_22_code 9 = .ok (.iload_n 2, 1) ∧ decode prog_29_method_22_code 10 = .ok (.iconst 0, 1) ∧ decode prog_29_method_22_code 11 = .ok (.invokestatic 92, 3) ∧ decode prog_29_method_22_code 14 = .ok (.istore_n 2, 1) ∧ decode prog_29_method_22_code 15 = .ok (.iload_n 3, 1) ∧ decode prog_29_method_22_code 16 = .ok (.aload_n 0, 1) ∧ decode prog_29_method_22_code 17 = .ok (.arraylength, 1) := by decide +kernel
theorem e1_jLat_indexOf : decode prog_29_method_22_code 18 = .ok (.invokestatic 38, 3) ∧ decode prog_29_method_22_code 21 = .ok (.istore_n 3, 1) ∧ decode prog_29_method_22_code 22 = .ok (.iload_n 2, 1) ∧ decode prog_29_method_22_code 23 = .ok (.iload_n 3, 1) ∧ decode prog_29_method_22_code 24 = .ok (.if_icmp .lt 5, 3) ∧ decode prog_29_method_22_code 27 = .ok (.iconst (-1), 1) ∧ decode prog_29_method_22_code 28 = .ok (.ireturn, 1) ∧ decode prog_29_method_22_code 29 = .ok (.aload_n 0, 1) ∧ decode prog_29_method_22_code 30 = .ok (.iload_n 1, 1) ∧ decode prog_29_method_22_code 31 = .ok (.iload_n 2, 1) ∧ decode prog_29_method_22_code 32 = .ok (.iload_n 3, 1) ∧ decode prog_29_method_22_code 33 = .ok (.invokestatic 95, 3) := by decide +kernel
theorem e2_jLat_indexOf : decode prog_29_method_22_code 36 = .ok (.ireturn, 1) := by decide +kernel
def T_jLat_indexOf : TT := [(0, o_ild 1 1), (1, o_call M_jLat_canEncode_I 1 4), (4, o_if_ne 9 7), (7, o_push (.int (iI (-1))) 8), (8, o_iret), (9, o_ild 2 10), (10, o_push (.int (iI (0))) 11), (11, o_call M_jMath_max 2 14), (14, o_ist 2 15), (15, o_ild 3 16), (16, o_ald 0 17), (17, o_alenX 18), (18, o_call M_jMath_min 2 21), (21, o_ist 3 22), (22, o_ild 2 23), (23, o_ild 3 24), (24, o_icmp_lt 29 27), (27, o_push (.int (iI (-1))) 28), (28, o_iret), (29, o_ald 0 30), (30, o_ild 1 31), (31, o_ild 2 32), (32, o_ild 3 33), (33, o_call M_jLat_indexOfChar 4 36), (36, o_iret)]
theorem k_jLat_indexOf : ∀ x ∈ T_jLat_indexOf, SO M_jLat_indexOf x.1 x.2 := by
  obtain ⟨h0, h1, h4, h7, h8, h9, h10, h11, h14, h15, h16, h17⟩ := e0_jLat_indexOf
  obtain ⟨h18, h21, h22, h23, h24, h27, h28, h29, h30, h31, h32, h33⟩ := e1_jLat_indexOf
  have h36 := e2_jLat_indexOf
  refine ac (s_ildn (M := M_jLat_indexOf) (pc := 0) (k := 1) h0) ?_
  refine ac (s_callS (M := M_jLat_indexOf) (pc := 1) (tz_jLat rfl) h1 q_jLat_canEncode_I wd791 wd792) ?_
  refine ac (s_if_ne (M := M_jLat_indexOf) (pc := 4) h4 (by decide)) ?_
  refine ac (s_iconst (M := M_jLat_indexOf) (pc := 7) h7 rfl) ?_
  refine ac (s_iret (M := M_jLat_indexOf) (pc := 8) h8 rfl) ?_
  refine ac (s_ildn (M := M_jLat_indexOf) (pc := 9) (k := 2) h9) ?_
  refine ac (s_iconst (M := M_jLat_indexOf) (pc := 10) h10 rfl) ?_
  refine ac (s_callS (M := M_jLat_indexOf) (pc := 11) (tz_jLat rfl) h11 q_jMath_max wd794 wd795) ?_
  refine ac (s_istn (M := M_jLat_indexOf) (pc := 14) (k := 2) h14 (by decide)) ?_
  refine ac (s_ildn (M := M_jLat_indexOf) (pc := 15) (k := 3) h15) ?_
  refine ac (s_aldn (M := M_jLat_indexOf) (pc := 16) (k := 0) h16) ?_
  refine ac (s_alenX (M := M_jLat_indexOf) (pc := 17) h17) ?_
  refine ac (s_callS (M := M_jLat_indexOf) (pc := 18) (tz_jLat rfl) h18 q_jMath_min wd797 wd612) ?_
  refine ac (s_istn (M := M_jLat_indexOf) (pc := 21) (k := 3) h21 (by decide)) ?_
  refine ac (s_ildn (M := M_jLat_indexOf) (pc := 22) (k := 2) h22) ?_
  refine ac (s_ildn (M := M_jLat_indexOf) (pc := 23) (k := 3) h23) ?_
  refine ac (s_icmp_lt (M := M_jLat_indexOf) (pc := 24) h24 (by decide)) ?_
  refine ac (s_iconst (M := M_jLat_indexOf) (pc := 27) h27 rfl) ?_
  refine ac (s_iret (M := M_jLat_indexOf) (pc := 28) h28 rfl) ?_
  refine ac (s_aldn (M := M_jLat_indexOf) (pc := 29) (k := 0) h29) ?_
  refine ac (s_ildn (M := M_jLat_indexOf) (pc := 30) (k := 1) h30) ?_
  refine ac (s_ildn (M := M_jLat_indexOf) (pc := 31) (k := 2) h31) ?_
  refine ac (s_ildn (M := M_jLat_indexOf) (pc := 32) (k := 3) h32) ?_
  refine ac (s_callS (M := M_jLat_indexOf) (pc := 33) (tz_jLat rfl) h33 q_jLat_indexOfChar wd798 wd799) ?_
  refine ac (s_iret (M := M_jLat_indexOf) (pc := 36) h36 rfl) ?_
  exact ac_nil
theorem e0_jLat_canEncode_I : decode prog_29_method_4_code 0 = .ok (.iload_n 0, 1) ∧ decode prog_29_method_4_code 1 = .ok (.ifCond .lt 14, 3) ∧ decode prog_29_method_4_code 4 = .ok (.iload_n 0, 1) ∧ decode prog_29_method_4_code 5 = .ok (.sipush 255, 3) ∧ decode prog_29_method_4_code 8 = .ok (.if_icmp .gt 7, 3) ∧ decode prog_29_method_4_code 11 = .ok (.iconst 1, 1) ∧ decode prog_29_method_4_code 12 = .ok (.goto 4, 3) ∧ decode prog_29_method_4_code 15 = .ok (.iconst 0, 1) ∧ decode prog_29_method_4_code 16 = .ok (.ireturn, 1) := by decide +kernel
def T_jLat_canEncode_I : TT := [(0, o_ild 0 1), (1, o_if_lt 15 4), (4, o_ild 0 5), (5, o_push (.int (iI (255))) 8), (8, o_icmp_gt 15 11), (11, o_push (.int (iI (1))) 12), (12, o_goto 16), (15, o_push (.int (iI (0))) 16), (16, o_zret)]
theorem k_jLat_canEncode_I : ∀ x ∈ T_jLat_canEncode_I, SO M_jLat_canEncode_I x.1 x.2 := by
  obtain ⟨h0, h1, h4, h5, h8, h11, h12, h15, h16⟩ := e0_jLat_canEncode_I
  refine ac (s_ildn (M := M_jLat_canEncode_I) (pc := 0) (k := 0) h0) ?_
  refine ac (s_if_lt (M := M_jLat_canEncode_I) (pc := 1) h1 (by decide)) ?_
  refine ac (s_ildn (M := M_jLat_canEncode_I) (pc := 4) (k := 0) h4) ?_
  refine ac (s_sipush (M := M_jLat_canEncode_I) (pc := 5) h5 (by decide)) ?_
  refine ac (s_icmp_gt (M := M_jLat_canEncode_I) (pc := 8) h8 (by decide)) ?_
  refine ac (s_iconst (M := M_jLat_canEncode_I) (pc := 11) h11 rfl) ?_
  refine ac (s_goto (M := M_jLat_canEncode_I) (pc := 12) h12 (by decide)) ?_
  refine ac (s_iconst (M := M_jLat_canEncode_I) (pc := 15) h15 rfl) ?_
  refine ac (s_zret (M := M_jLat_canEncode_I) (pc := 16) h16 rfl) ?_
  exact ac_nil
theorem e0_jLat_indexOfChar : decode prog_29_method_23_code 0 = .ok (.iload_n 1, 1) ∧ decode prog_29_method_23_code 1 = .ok (.i2b, 1) ∧ decode prog_29_method_23_code 2 = .ok (.istore 4, 2) ∧ decode prog_29_method_23_code 4 = .ok (.iload_n 2, 1) ∧ decode prog_29_method_23_code 5 = .ok (.istore 5, 2) ∧ decode prog_29_method_23_code 7 = .ok (.iload 5, 2) ∧ decode prog_29_method_23_code 9 = .ok (.iload_n 3, 1) ∧ decode prog_29_method_23_code 10 = .ok (.if_icmp .ge 21, 3) ∧ decode prog_29_method_23_code 13 = .ok (.aload_n 0, 1) ∧ decode prog_29_method_23_code 14 = .ok (.iload 5, 2) ∧ decode prog_29_method_23_code 16 = .ok (.baload, 1) ∧ decode prog_29_method_23_code 17 = .ok (.iload 4, 2) := by decide +kernel
theorem e1_jLat_indexOfChar : decode prog_29_method_23_code 19 = .ok (.if_icmp .ne 6, 3) ∧ decode prog_29_method_23_code 22 = .ok (.iload 5, 2) ∧ decode prog_29_method_23_code 24 = .ok (.ireturn, 1) ∧ decode prog_29_method_23_code 25 = .ok (.iinc 5 1, 3) ∧ decode prog_29_method_23_code 28 = .ok (.goto (-21), 3) ∧ decode prog_29_method_23_code 31 = .ok (.iconst (-1), 1) ∧ decode prog_29_method_23_code 32 = .ok (.ireturn, 1) := by decide +kernel
def T_jLat_indexOfChar : TT := [(0, o_ild 1 1), (1, o_i2b 2), (2, o_ist 4 4), (4, o_ild 2 5), (5, o_ist 5 7), (7, o_ild 5 9), (9, o_ild 3 10), (10, o_icmp_ge 31 13), (13, o_ald 0 14), (14, o_ild 5 16), (16, o_baldX 17), (17, o_ild 4 19), (19, o_icmp_ne 25 22), (22, o_ild 5 24), (24, o_iret), (25, o_iinc 5 (iI (1)) 28), (28, o_goto 7), (31, o_push (.int (iI (-1))) 32), (32, o_iret)]
theorem k_jLat_indexOfChar : ∀ x ∈ T_jLat_indexOfChar, SO M_jLat_indexOfChar x.1 x.2 := by
  obtain ⟨h0, h1, h2, h4, h5, h7, h9, h10, h13, h14, h16, h17⟩ := e0_jLat_indexOfChar
  obtain ⟨h19, h22, h24, h25, h28, h31, h32⟩ := e1_jLat_indexOfChar
  refine ac (s_ildn (M := M_jLat_indexOfChar) (pc := 0) (k := 1) h0) ?_
  refine ac (s_i2b (M := M_jLat_indexOfChar) (pc := 1) h1) ?_
  refine ac (s_ist (M := M_jLat_indexOfChar) (pc := 2) h2 (by decide)) ?_
  refine ac (s_ildn (M := M_jLat_indexOfChar) (pc := 4) (k := 2) h4) ?_
  refine ac (s_ist (M := M_jLat_indexOfChar) (pc := 5) h5 (by decide)) ?_
  refine ac (s_ild (M := M_jLat_indexOfChar) (pc := 7) h7) ?_
  refine ac (s_ildn (M := M_jLat_indexOfChar) (pc := 9) (k := 3) h9) ?_
  refine ac (s_icmp_ge (M := M_jLat_indexOfChar) (pc := 10) h10 (by decide)) ?_
  refine ac (s_aldn (M := M_jLat_indexOfChar) (pc := 13) (k := 0) h13) ?_
  refine ac (s_ild (M := M_jLat_indexOfChar) (pc := 14) h14) ?_
  refine ac (s_baldX (M := M_jLat_indexOfChar) (pc := 16) h16) ?_
  refine ac (s_ild (M := M_jLat_indexOfChar) (pc := 17) h17) ?_
  refine ac (s_icmp_ne (M := M_jLat_indexOfChar) (pc := 19) h19 (by decide)) ?_
  refine ac (s_ild (M := M_jLat_indexOfChar) (pc := 22) h22) ?_
  refine ac (s_iret (M := M_jLat_indexOfChar) (pc := 24) h24 rfl) ?_
  refine ac (s_iinc (M := M_jLat_indexOfChar) (pc := 25) h25 rfl (by decide)) ?_
  refine ac (s_goto (M := M_jLat_indexOfChar) (pc := 28) h28 (by decide)) ?_
  refine ac (s_iconst (M := M_jLat_indexOfChar) (pc := 31) h31 rfl) ?_
  refine ac (s_iret (M := M_jLat_indexOfChar) (pc := 32) h32 rfl) ?_
  exact ac_nil
theorem e0_jSB_init_LString : decode prog_28_method_3_code 0 = .ok (.aload_n 0, 1) ∧ decode prog_28_method_3_code 1 = .ok (.aload_n 1, 1) ∧ decode prog_28_method_3_code 2 = .ok (.invokespecial 7, 3) ∧ decode prog_28_method_3_code 5 = .ok (.return_, 1) := by decide +kernel
def T_jSB_init_LString : TT := [(0, o_ald 0 1), (1, o_ald 1 2), (2, o_callI M_jASB_init_LString 2 1 22 5), (5, o_vret)]
theorem k_jSB_init_LString : ∀ x ∈ T_jSB_init_LString, SO M_jSB_init_LString x.1 x.2 := by
  obtain ⟨h0, h1, h2, h5⟩ := e0_jSB_init_LString
  refine ac (s_aldn (M := M_jSB_init_LString) (pc := 0) (k := 0) h0) ?_
  refine ac (s_aldn (M := M_jSB_init_LString) (pc := 1) (k := 1) h1) ?_
  refine ac (s_callI (M := M_jSB_init_LString) (pc := 2) (mc1 := 1) (ms1 := 22) (tz_jSB rfl) h2 q_jASB_init_LString rfl rfl wd935 wd936) ?_
  refine ac (s_vret (M := M_jSB_init_LString) (pc := 5) h5 rfl) ?_
  exact ac_nil
theorem e0_jASB_init_LString : decode prog_12_method_3_code 0 = .ok (.aload_n 0, 1) ∧ decode prog_12_method_3_code 1 = .ok (.invokespecial 3, 3) ∧ decode prog_12_method_3_code 4 = .ok (.aload_n 1, 1) ∧ decode prog_12_method_3_code 5 = .ok (.invokevirtual 32, 3) ∧ decode prog_12_method_3_code 8 = .ok (.istore_n 2, 1) ∧ decode prog_12_method_3_code 9 = .ok (.iload_n 2, 1) ∧ decode prog_12_method_3_code 10 = .ok (.ldc 38, 2) ∧ decode prog_12_method_3_code 12 = .ok (.if_icmp .ge 10, 3) ∧ decode prog_12_method_3_code 15 = .ok (.iload_n 2, 1) ∧ decode prog_12_method_3_code 16 = .ok (.bipush 16, 2) ∧ decode prog_12_method_3_code 18 = .ok (.iadd, 1) ∧ decode prog_12_method_3_code 19 = .ok (.goto 5, 3) := by decide +kernel
theorem e1_jASB_init_LString : decode prog_12_method_3_code 22 = .ok (.ldc 39, 2) ∧ decode prog_12_method_3_code 24 = .ok (.istore_n 3, 1) ∧ decode prog_12_method_3_code 25 = .ok (.aload_n 1, 1) ∧ decode prog_12_method_3_code 26 = .ok (.invokevirtual 40, 3) ∧ decode prog_12_method_3_code 29 = .ok (.istore 4, 2) ∧ decode prog_12_method_3_code 31 = .ok (.aload_n 0, 1) ∧ decode prog_12_method_3_code 32 = .ok (.iload 4, 2) ∧ decode prog_12_method_3_code 34 = .ok (.putfield 22, 3) ∧ decode prog_12_method_3_code 37 = .ok (.aload_n 0, 1) ∧ decode prog_12_method_3_code 38 = .ok (.iload 4, 2) ∧ decode prog_12_method_3_code 40 = .ok (.ifCond .ne 9, 3) ∧ decode prog_12_method_3_code 43 = .ok (.iload_n 3, 1) := by decide +kernel
theorem e2_jASB_init_LString : decode prog_12_method_3_code 44 = .ok (.newarray .byte, 2) ∧ decode prog_12_method_3_code 46 = .ok (.goto 7, 3) ∧ decode prog_12_method_3_code 49 = .ok (.iload_n 3, 1) ∧ decode prog_12_method_3_code 50 = .ok (.invokestatic 26, 3) ∧ decode prog_12_method_3_code 53 = .ok (.putfield 15, 3) ∧ decode prog_12_method_3_code 56 = .ok (.aload_n 0, 1) ∧ decode prog_12_method_3_code 57 = .ok (.aload_n 1, 1) ∧ decode prog_12_method_3_code 58 = .ok (.invokevirtual 43, 3) ∧ decode prog_12_method_3_code 61 = .ok (.pop, 1) ∧ decode prog_12_method_3_code 62 = .ok (.return_, 1) := by decide +kernel
def T_jASB_init_LString : TT := [(0, o_ald 0 1), (1, o_oinit 4), (4, o_ald 1 5), (5, o_callVS M_jStr_length 1 8), (8, o_ist 2 9), (9, o_ild 2 10), (10, o_push (.int (iI (2147483631))) 12), (12, o_icmp_ge 22 15), (15, o_ild 2 16), (16, o_push (.int (iI (16))) 18), (18, o_iadd 19), (19, o_goto 24), (22, o_push (.int (iI (2147483647))) 24), (24, o_ist 3 25), (25, o_ald 1 26), (26, o_callVS M_jStr_coder 1 29), (29, o_ist 4 31), (31, o_ald 0 32), (32, o_ild 4 34), (34, o_putb 9 1 37), (37, o_ald 0 38), (38, o_ild 4 40), (40, o_if_ne 49 43), (43, o_ild 3 44), (44, o_newai 0 46), (46, o_goto 53), (49, o_ild 3 50), (50, o_call M_jU16_newBytesFor 1 53), (53, o_putr 9 0 56), (56, o_ald 0 57), (57, o_ald 1 58), (58, o_callU M_jSB_append_LString_br 2 0 0 61), (61, o_pop 62), (62, o_vret)]
theorem k_jASB_init_LString : ∀ x ∈ T_jASB_init_LString, SO M_jASB_init_LString x.1 x.2 := by
  obtain ⟨h0, h1, h4, h5, h8, h9, h10, h12, h15, h16, h18, h19⟩ := e0_jASB_init_LString
  obtain ⟨h22, h24, h25, h26, h29, h31, h32, h34, h37, h38, h40, h43⟩ := e1_jASB_init_LString
  obtain ⟨h44, h46, h49, h50, h53, h56, h57, h58, h61, h62⟩ := e2_jASB_init_LString
  refine ac (s_aldn (M := M_jASB_init_LString) (pc := 0) (k := 0) h0) ?_
  refine ac (s_oinit (M := M_jASB_init_LString) (pc := 1) h1 wd227 wd56 wd57) ?_
  refine ac (s_aldn (M := M_jASB_init_LString) (pc := 4) (k := 1) h4) ?_
  refine ac (s_callVS (M := M_jASB_init_LString) (pc := 5) (tz_jASB rfl) h5 q_jStr_length rfl wd938 wd672 wd673) ?_
  refine ac (s_istn (M := M_jASB_init_LString) (pc := 8) (k := 2) h8 (by decide)) ?_
  refine ac (s_ildn (M := M_jASB_init_LString) (pc := 9) (k := 2) h9) ?_
  refine ac (s_ldc (M := M_jASB_init_LString) (pc := 10) h10 wd939) ?_
  refine ac (s_icmp_ge (M := M_jASB_init_LString) (pc := 12) h12 (by decide)) ?_
  refine ac (s_ildn (M := M_jASB_init_LString) (pc := 15) (k := 2) h15) ?_
  refine ac (s_bipush (M := M_jASB_init_LString) (pc := 16) h16 (by decide)) ?_
  refine ac (s_iadd (M := M_jASB_init_LString) (pc := 18) h18) ?_
  refine ac (s_goto (M := M_jASB_init_LString) (pc := 19) h19 (by decide)) ?_
  refine ac (s_ldc (M := M_jASB_init_LString) (pc := 22) h22 wd940) ?_
  refine ac (s_istn (M := M_jASB_init_LString) (pc := 24) (k := 3) h24 (by decide)) ?_
  refine ac (s_aldn (M := M_jASB_init_LString) (pc := 25) (k := 1) h25) ?_
  refine ac (s_callVS (M := M_jASB_init_LString) (pc := 26) (tz_jASB rfl) h26 q_jStr_coder rfl wd941 wd676 wd677) ?_
  refine ac (s_ist (M := M_jASB_init_LString) (pc := 29) h29 (by decide)) ?_
  refine ac (s_aldn (M := M_jASB_init_LString) (pc := 31) (k := 0) h31) ?_
  refine ac (s_ild (M := M_jASB_init_LString) (pc := 32) h32) ?_
  refine ac (s_putb (M := M_jASB_init_LString) (pc := 34) (T := TJ4) (N := 4) (ty0 := tyJ4) h34 ⟨rfl, in_J4, by decide, wd238, tyJ4_ok, nmJ4, (Or.inl rfl)⟩ rfl) ?_
  refine ac (s_aldn (M := M_jASB_init_LString) (pc := 37) (k := 0) h37) ?_
  refine ac (s_ild (M := M_jASB_init_LString) (pc := 38) h38) ?_
  refine ac (s_if_ne (M := M_jASB_init_LString) (pc := 40) h40 (by decide)) ?_
  refine ac (s_ildn (M := M_jASB_init_LString) (pc := 43) (k := 3) h43) ?_
  refine ac (s_newai (M := M_jASB_init_LString) (pc := 44) (t := 0) h44 rfl (fun _ => rfl) wd96 (by decide) (fun _ _ => rfl)) ?_
  refine ac (s_goto (M := M_jASB_init_LString) (pc := 46) h46 (by decide)) ?_
  refine ac (s_ildn (M := M_jASB_init_LString) (pc := 49) (k := 3) h49) ?_
  refine ac (s_callS (M := M_jASB_init_LString) (pc := 50) (tz_jASB rfl) h50 q_jU16_newBytesFor wd230 wd231) ?_
  refine ac (s_putr (M := M_jASB_init_LString) (pc := 53) (T := TJ4) (N := 4) (ty0 := tyJ4) h53 ⟨rfl, in_J4, by decide, wd237, tyJ4_ok, nmJ4, (Or.inl rfl)⟩ (Or.inr ⟨_, rfl⟩)) ?_
  refine ac (s_aldn (M := M_jASB_init_LString) (pc := 56) (k := 0) h56) ?_
  refine ac (s_aldn (M := M_jASB_init_LString) (pc := 57) (k := 1) h57) ?_
  refine ac (s_callO (M := M_jASB_init_LString) (pc := 58) (mc1 := 0) (ms1 := 0) (x := ⟨"java/lang/AbstractStringBuilder", "append", "(Ljava/lang/String;)Ljava/lang/AbstractStringBuilder;"⟩) (tz_jASB rfl) h58 q_jSB_append_LString_br (by decide +kernel) (by decide) wd942 wd944 wd943 wd945 wd946 wd953) ?_
  refine ac (s_pop (M := M_jASB_init_LString) (pc := 61) h61) ?_
  refine ac (s_vret (M := M_jASB_init_LString) (pc := 62) h62 rfl) ?_
  exact ac_nil
theorem e0_jSB_append_LString_br : decode prog_28_method_80_code 0 = .ok (.aload_n 0, 1) ∧ decode prog_28_method_80_code 1 = .ok (.aload_n 1, 1) ∧ decode prog_28_method_80_code 2 = .ok (.invokevirtual 23, 3) ∧ decode prog_28_method_80_code 5 = .ok (.areturn, 1) := by decide +kernel
def T_jSB_append_LString_br : TT := [(0, o_ald 0 1), (1, o_ald 1 2), (2, o_callV M_jSB_append_LString 9 2 5), (5, o_aret)]
theorem k_jSB_append_LString_br : ∀ x ∈ T_jSB_append_LString_br, SO M_jSB_append_LString_br x.1 x.2 := by
  obtain ⟨h0, h1, h2, h5⟩ := e0_jSB_append_LString_br
  refine ac (s_aldn (M := M_jSB_append_LString_br) (pc := 0) (k := 0) h0) ?_
  refine ac (s_aldn (M := M_jSB_append_LString_br) (pc := 1) (k := 1) h1) ?_
  refine ac (s_callV (M := M_jSB_append_LString_br) (pc := 2) (tz_jSB rfl) h2 q_jSB_append_LString wd948 wd949 wd950 rfl (T := TJ4) (N := 4) rfl) ?_
  refine ac (s_aret (M := M_jSB_append_LString_br) (pc := 5) h5 rfl (Or.inl ⟨_, rfl⟩)) ?_
  exact ac_nil
theorem e0_jSB_append_LString : decode prog_28_method_7_code 0 = .ok (.aload_n 0, 1) ∧ decode prog_28_method_7_code 1 = .ok (.aload_n 1, 1) ∧ decode prog_28_method_7_code 2 = .ok (.invokespecial 29, 3) ∧ decode prog_28_method_7_code 5 = .ok (.pop, 1) ∧ decode prog_28_method_7_code 6 = .ok (.aload_n 0, 1) ∧ decode prog_28_method_7_code 7 = .ok (.areturn, 1) := by decide +kernel
def T_jSB_append_LString : TT := [(0, o_ald 0 1), (1, o_ald 1 2), (2, o_alt (o_callU M_jASB_append_LString 2 0 0 5) (o_callU M_jASB_append_LString 2 1 46 5)), (5, o_pop 6), (6, o_ald 0 7), (7, o_aret)]
theorem k_jSB_append_LString : ∀ x ∈ T_jSB_append_LString, SO M_jSB_append_LString x.1 x.2 := by
  obtain ⟨h0, h1, h2, h5, h6, h7⟩ := e0_jSB_append_LString
  refine ac (s_aldn (M := M_jSB_append_LString) (pc := 0) (k := 0) h0) ?_
  refine ac (s_aldn (M := M_jSB_append_LString) (pc := 1) (k := 1) h1) ?_
  refine ac (s_alt (s_callSU (M := M_jSB_append_LString) (pc := 2) (mc1 := 0) (ms1 := 0) (tz_jSB rfl) h2 q_jASB_append_LString (by decide) wd952 wd944 wd249 wd943) (s_callSU (M := M_jSB_append_LString) (pc := 2) (mc1 := 1) (ms1 := 46) (tz_jSB rfl) h2 q_jASB_append_LString (by decide) wd952 wd944 wd249 wd943)) ?_
  refine ac (s_pop (M := M_jSB_append_LString) (pc := 5) h5) ?_
  refine ac (s_aldn (M := M_jSB_append_LString) (pc := 6) (k := 0) h6) ?_
  refine ac (s_aret (M := M_jSB_append_LString) (pc := 7) h7 rfl (Or.inl ⟨_, rfl⟩)) ?_
  exact ac_nil
theorem e0_jASB_append_LString : decode prog_12_method_22_code 0 = .ok (.aload_n 1, 1) ∧ decode prog_12_method_22_code 1 = .ok (.ifnonnull 8, 3) ∧ decode prog_12_method_22_code 4 = .ok (.aload_n 0, 1) ∧ decode prog_12_method_22_code 5 = .ok (.invokevirtual 204, 3) ∧ decode prog_12_method_22_code 8 = .ok (.areturn, 1) ∧ decode prog_12_method_22_code 9 = .ok (.aload_n 1, 1) ∧ decode prog_12_method_22_code 10 = .ok (.invokevirtual 32, 3) ∧ decode prog_12_method_22_code 13 = .ok (.istore_n 2, 1) ∧ decode prog_12_method_22_code 14 = .ok (.aload_n 0, 1) ∧ decode prog_12_method_22_code 15 = .ok (.aload_n 0, 1) ∧ decode prog_12_method_22_code 16 = .ok (.getfield 79, 3) ∧ decode prog_12_method_22_code 19 = .ok (.iload_n 2, 1) := by decide +kernel
theorem e1_jASB_append_LString : decode prog_12_method_22_code 20 = .ok (.iadd, 1) ∧ decode prog_12_method_22_code 21 = .ok (.invokevirtual 100, 3) ∧ decode prog_12_method_22_code 24 = .ok (.aload_n 0, 1) ∧ decode prog_12_method_22_code 25 = .ok (.aload_n 0, 1) ∧ decode prog_12_method_22_code 26 = .ok (.getfield 79, 3) ∧ decode prog_12_method_22_code 29 = .ok (.aload_n 1, 1) ∧ decode prog_12_method_22_code 30 = .ok (.invokevirtual 208, 3) ∧ decode prog_12_method_22_code 33 = .ok (.aload_n 0, 1) ∧ decode prog_12_method_22_code 34 = .ok (.dup, 1) ∧ decode prog_12_method_22_code 35 = .ok (.getfield 79, 3) ∧ decode prog_12_method_22_code 38 = .ok (.iload_n 2, 1) ∧ decode prog_12_method_22_code 39 = .ok (.iadd, 1) := by decide +kernel
theorem e2_jASB_append_LString : decode prog_12_method_22_code 40 = .ok (.putfield 79, 3) ∧ decode prog_12_method_22_code 43 = .ok (.aload_n 0, 1) ∧ decode prog_12_method_22_code 44 = .ok (.areturn, 1) := by decide +kernel
def T_jASB_append_LString : TT := [(0, o_ald 1 1), (1, o_ifnn 9 4), (4, o_ald 0 5), (8, o_aret), (9, o_ald 1 10), (10, o_callVS M_jStr_length 1 13), (13, o_ist 2 14), (14, o_ald 0 15), (15, o_ald 0 16), (16, o_get 9 3 19), (19, o_ild 2 20), (20, o_iadd 21), (21, o_alt (o_callU M_jASB_ensureCapacityInternal 2 0 0 24) (o_callU M_jASB_ensureCapacityInternal 2 1 46 24)), (24, o_ald 0 25), (25, o_ald 0 26), (26, o_get 9 3 29), (29, o_ald 1 30), (30, o_callU M_jASB_putStringAt 3 0 0 33), (33, o_ald 0 34), (34, o_dup 35), (35, o_get 9 3 38), (38, o_ild 2 39), (39, o_iadd 40), (40, o_puti 9 3 43), (43, o_ald 0 44), (44, o_aret)]
theorem k_jASB_append_LString : ∀ x ∈ T_jASB_append_LString, SO M_jASB_append_LString x.1 x.2 := by
  obtain ⟨h0, h1, h4, h5, h8, h9, h10, h13, h14, h15, h16, h19⟩ := e0_jASB_append_LString
  obtain ⟨h20, h21, h24, h25, h26, h29, h30, h33, h34, h35, h38, h39⟩ := e1_jASB_append_LString
  obtain ⟨h40, h43, h44⟩ := e2_jASB_append_LString
  refine ac (s_aldn (M := M_jASB_append_LString) (pc := 0) (k := 1) h0) ?_
  refine ac (s_ifnn (M := M_jASB_append_LString) (pc := 1) h1 (by decide)) ?_
  refine ac (s_aldn (M := M_jASB_append_LString) (pc := 4) (k := 0) h4) ?_
  refine ac (s_aret (M := M_jASB_append_LString) (pc := 8) h8 rfl (Or.inl ⟨_, rfl⟩)) ?_
  refine ac (s_aldn (M := M_jASB_append_LString) (pc := 9) (k := 1) h9) ?_
  refine ac (s_callVS (M := M_jASB_append_LString) (pc := 10) (tz_jASB rfl) h10 q_jStr_length rfl wd938 wd672 wd673) ?_
  refine ac (s_istn (M := M_jASB_append_LString) (pc := 13) (k := 2) h13 (by decide)) ?_
  refine ac (s_aldn (M := M_jASB_append_LString) (pc := 14) (k := 0) h14) ?_
  refine ac (s_aldn (M := M_jASB_append_LString) (pc := 15) (k := 0) h15) ?_
  refine ac (s_get (M := M_jASB_append_LString) (pc := 16) (T := TJ4) (N := 4) h16 rfl in_J4 (by decide) wd240) ?_
  refine ac (s_ildn (M := M_jASB_append_LString) (pc := 19) (k := 2) h19) ?_
  refine ac (s_iadd (M := M_jASB_append_LString) (pc := 20) h20) ?_
  refine ac (s_alt (s_callU (M := M_jASB_append_LString) (pc := 21) (mc1 := 0) (ms1 := 0) (x := M_jASB_ensureCapacityInternal.1) (tz_jASB rfl) h21 q_jASB_ensureCapacityInternal rfl (by decide +kernel) wd958 wd1294 (wdU 0 rfl) wd960) (s_callU (M := M_jASB_append_LString) (pc := 21) (mc1 := 1) (ms1 := 46) (x := M_jASB_ensureCapacityInternal.1) (tz_jASB rfl) h21 q_jASB_ensureCapacityInternal rfl (by decide +kernel) wd958 wd1294 (wdU 0 rfl) wd960)) ?_
  refine ac (s_aldn (M := M_jASB_append_LString) (pc := 24) (k := 0) h24) ?_
  refine ac (s_aldn (M := M_jASB_append_LString) (pc := 25) (k := 0) h25) ?_
  refine ac (s_get (M := M_jASB_append_LString) (pc := 26) (T := TJ4) (N := 4) h26 rfl in_J4 (by decide) wd240) ?_
  refine ac (s_aldn (M := M_jASB_append_LString) (pc := 29) (k := 1) h29) ?_
  refine ac (s_callU (M := M_jASB_append_LString) (pc := 30) (mc1 := 0) (ms1 := 0) (x := M_jASB_putStringAt.1) (tz_jASB rfl) h30 q_jASB_putStringAt rfl (by decide +kernel) wd999 wd1296 (wdU 2 rfl) wd1001) ?_
  refine ac (s_aldn (M := M_jASB_append_LString) (pc := 33) (k := 0) h33) ?_
  refine ac (s_dup (M := M_jASB_append_LString) (pc := 34) h34) ?_
  refine ac (s_get (M := M_jASB_append_LString) (pc := 35) (T := TJ4) (N := 4) h35 rfl in_J4 (by decide) wd240) ?_
  refine ac (s_ildn (M := M_jASB_append_LString) (pc := 38) (k := 2) h38) ?_
  refine ac (s_iadd (M := M_jASB_append_LString) (pc := 39) h39) ?_
  refine ac (s_puti (M := M_jASB_append_LString) (pc := 40) (T := TJ4) (N := 4) (ty0 := tyJ4) h40 ⟨rfl, in_J4, by decide, wd240, tyJ4_ok, nmJ4, (Or.inl rfl)⟩ rfl) ?_
  refine ac (s_aldn (M := M_jASB_append_LString) (pc := 43) (k := 0) h43) ?_
  refine ac (s_aret (M := M_jASB_append_LString) (pc := 44) h44 rfl (Or.inl ⟨_, rfl⟩)) ?_
  exact ac_nil
theorem e0_jASB_ensureCapacityInternal : decode prog_12_method_9_code 0 = .ok (.aload_n 0, 1) ∧ decode prog_12_method_9_code 1 = .ok (.getfield 15, 3) ∧ decode prog_12_method_9_code 4 = .ok (.arraylength, 1) ∧ decode prog_12_method_9_code 5 = .ok (.aload_n 0, 1) ∧ decode prog_12_method_9_code 6 = .ok (.getfield 22, 3) ∧ decode prog_12_method_9_code 9 = .ok (.ishr, 1) ∧ decode prog_12_method_9_code 10 = .ok (.istore_n 2, 1) ∧ decode prog_12_method_9_code 11 = .ok (.iload_n 1, 1) ∧ decode prog_12_method_9_code 12 = .ok (.iload_n 2, 1) ∧ decode prog_12_method_9_code 13 = .ok (.isub, 1) ∧ decode prog_12_method_9_code 14 = .ok (.ifCond .le 24, 3) ∧ decode prog_12_method_9_code 17 = .ok (.aload_n 0, 1) := by decide +kernel
theorem e1_jASB_ensureCapacityInternal : decode prog_12_method_9_code 18 = .ok (.aload_n 0, 1) ∧ decode prog_12_method_9_code 19 = .ok (.getfield 15, 3) ∧ decode prog_12_method_9_code 22 = .ok (.aload_n 0, 1) ∧ decode prog_12_method_9_code 23 = .ok (.iload_n 1, 1) ∧ decode prog_12_method_9_code 24 = .ok (.invokevirtual 104, 3) ∧ decode prog_12_method_9_code 27 = .ok (.aload_n 0, 1) ∧ decode prog_12_method_9_code 28 = .ok (.getfield 22, 3) ∧ decode prog_12_method_9_code 31 = .ok (.ishl, 1) ∧ decode prog_12_method_9_code 32 = .ok (.invokestatic 108, 3) ∧ decode prog_12_method_9_code 35 = .ok (.putfield 15, 3) ∧ decode prog_12_method_9_code 38 = .ok (.return_, 1) := by decide +kernel
def T_jASB_ensureCapacityInternal : TT := [(0, o_ald 0 1), (1, o_get 9 0 4), (4, o_alenX 5), (5, o_ald 0 6), (6, o_get 9 1 9), (9, o_ishr 10), (10, o_ist 2 11), (11, o_ild 1 12), (12, o_ild 2 13), (13, o_isub 14), (14, o_if_le 38 17), (17, o_ald 0 18), (18, o_ald 0 19), (19, o_get 9 0 22), (22, o_ald 0 23), (23, o_ild 1 24), (24, o_callU M_jASB_newCapacity 2 0 0 27), (27, o_ald 0 28), (28, o_get 9 1 31), (31, o_ishl 32), (32, o_callB M_jArr_copyOf 2 1 46 35), (35, o_putr 9 0 38), (38, o_vret)]
theorem k_jASB_ensureCapacityInternal : ∀ x ∈ T_jASB_ensureCapacityInternal, SO M_jASB_ensureCapacityInternal x.1 x.2 := by
  obtain ⟨h0, h1, h4, h5, h6, h9, h10, h11, h12, h13, h14, h17⟩ := e0_jASB_ensureCapacityInternal
  obtain ⟨h18, h19, h22, h23, h24, h27, h28, h31, h32, h35, h38⟩ := e1_jASB_ensureCapacityInternal
  refine ac (s_aldn (M := M_jASB_ensureCapacityInternal) (pc := 0) (k := 0) h0) ?_
  refine ac (s_get (M := M_jASB_ensureCapacityInternal) (pc := 1) (T := TJ4) (N := 4) h1 rfl in_J4 (by decide) wd237) ?_
  refine ac (s_alenX (M := M_jASB_ensureCapacityInternal) (pc := 4) h4) ?_
  refine ac (s_aldn (M := M_jASB_ensureCapacityInternal) (pc := 5) (k := 0) h5) ?_
  refine ac (s_get (M := M_jASB_ensureCapacityInternal) (pc := 6) (T := TJ4) (N := 4) h6 rfl in_J4 (by decide) wd238) ?_
  refine ac (s_ishr (M := M_jASB_ensureCapacityInternal) (pc := 9) h9) ?_
  refine ac (s_istn (M := M_jASB_ensureCapacityInternal) (pc := 10) (k := 2) h10 (by decide)) ?_
  refine ac (s_ildn (M := M_jASB_ensureCapacityInternal) (pc := 11) (k := 1) h11) ?_
  refine ac (s_ildn (M := M_jASB_ensureCapacityInternal) (pc := 12) (k := 2) h12) ?_
  refine ac (s_isub (M := M_jASB_ensureCapacityInternal) (pc := 13) h13) ?_
  refine ac (s_if_le (M := M_jASB_ensureCapacityInternal) (pc := 14) h14 (by decide)) ?_
  refine ac (s_aldn (M := M_jASB_ensureCapacityInternal) (pc := 17) (k := 0) h17) ?_
  refine ac (s_aldn (M := M_jASB_ensureCapacityInternal) (pc := 18) (k := 0) h18) ?_
  refine ac (s_get (M := M_jASB_ensureCapacityInternal) (pc := 19) (T := TJ4) (N := 4) h19 rfl in_J4 (by decide) wd237) ?_
  refine ac (s_aldn (M := M_jASB_ensureCapacityInternal) (pc := 22) (k := 0) h22) ?_
  refine ac (s_ildn (M := M_jASB_ensureCapacityInternal) (pc := 23) (k := 1) h23) ?_
  refine ac (s_callU (M := M_jASB_ensureCapacityInternal) (pc := 24) (mc1 := 0) (ms1 := 0) (x := M_jASB_newCapacity.1) (tz_jASB rfl) h24 q_jASB_newCapacity rfl (by decide +kernel) wd962 wd1295 (wdU 1 rfl) wd964) ?_
  refine ac (s_aldn (M := M_jASB_ensureCapacityInternal) (pc := 27) (k := 0) h27) ?_
  refine ac (s_get (M := M_jASB_ensureCapacityInternal) (pc := 28) (T := TJ4) (N := 4) h28 rfl in_J4 (by decide) wd238) ?_
  refine ac (s_ishl (M := M_jASB_ensureCapacityInternal) (pc := 31) h31) ?_
  refine ac (s_callSB (M := M_jASB_ensureCapacityInternal) (pc := 32) (mc1 := 1) (ms1 := 46) (tz_jASB rfl) h32 q_jArr_copyOf wd974 wd975) ?_
  refine ac (s_putr (M := M_jASB_ensureCapacityInternal) (pc := 35) (T := TJ4) (N := 4) (ty0 := tyJ4) h35 ⟨rfl, in_J4, by decide, wd237, tyJ4_ok, nmJ4, (Or.inl rfl)⟩ (Or.inr ⟨_, rfl⟩)) ?_
  refine ac (s_vret (M := M_jASB_ensureCapacityInternal) (pc := 38) h38 rfl) ?_
  exact ac_nil
theorem e0_jASB_newCapacity : decode prog_12_method_10_code 0 = .ok (.aload_n 0, 1) ∧ decode prog_12_method_10_code 1 = .ok (.getfield 15, 3) ∧ decode prog_12_method_10_code 4 = .ok (.arraylength, 1) ∧ decode prog_12_method_10_code 5 = .ok (.istore_n 2, 1) ∧ decode prog_12_method_10_code 6 = .ok (.iload_n 1, 1) ∧ decode prog_12_method_10_code 7 = .ok (.aload_n 0, 1) ∧ decode prog_12_method_10_code 8 = .ok (.getfield 22, 3) ∧ decode prog_12_method_10_code 11 = .ok (.ishl, 1) ∧ decode prog_12_method_10_code 12 = .ok (.istore_n 3, 1) ∧ decode prog_12_method_10_code 13 = .ok (.iload_n 3, 1) ∧ decode prog_12_method_10_code 14 = .ok (.iload_n 2, 1) ∧ decode prog_12_method_10_code 15 = .ok (.isub, 1) := by decide +kernel
theorem e1_jASB_newCapacity : decode prog_12_method_10_code 16 = .ok (.istore 4, 2) ∧ decode prog_12_method_10_code 18 = .ok (.iload_n 2, 1) ∧ decode prog_12_method_10_code 19 = .ok (.iload 4, 2) ∧ decode prog_12_method_10_code 21 = .ok (.iload_n 2, 1) ∧ decode prog_12_method_10_code 22 = .ok (.iconst 2, 1) ∧ decode prog_12_method_10_code 23 = .ok (.aload_n 0, 1) ∧ decode prog_12_method_10_code 24 = .ok (.getfield 22, 3) ∧ decode prog_12_method_10_code 27 = .ok (.ishl, 1) ∧ decode prog_12_method_10_code 28 = .ok (.iadd, 1) ∧ decode prog_12_method_10_code 29 = .ok (.invokestatic 114, 3) ∧ decode prog_12_method_10_code 32 = .ok (.istore 5, 2) ∧ decode prog_12_method_10_code 34 = .ok (.iload 5, 2) := by decide +kernel
theorem e2_jASB_newCapacity : decode prog_12_method_10_code 36 = .ok (.ldc 39, 2) ∧ decode prog_12_method_10_code 38 = .ok (.if_icmp .ne 13, 3) ∧ decode prog_12_method_10_code 41 = .ok (.new 120, 3) ∧ decode prog_12_method_10_code 44 = .ok (.dup, 1) ∧ decode prog_12_method_10_code 45 = .ok (.ldc 122, 2) ∧ decode prog_12_method_10_code 47 = .ok (.invokespecial 124, 3) ∧ decode prog_12_method_10_code 50 = .ok (.athrow, 1) ∧ decode prog_12_method_10_code 51 = .ok (.iload 5, 2) ∧ decode prog_12_method_10_code 53 = .ok (.aload_n 0, 1) ∧ decode prog_12_method_10_code 54 = .ok (.getfield 22, 3) ∧ decode prog_12_method_10_code 57 = .ok (.ishr, 1) ∧ decode prog_12_method_10_code 58 = .ok (.ireturn, 1) := by decide +kernel
def T_jASB_newCapacity : TT := [(0, o_ald 0 1), (1, o_get 9 0 4), (4, o_alenX 5), (5, o_ist 2 6), (6, o_ild 1 7), (7, o_ald 0 8), (8, o_get 9 1 11), (11, o_ishl 12), (12, o_ist 3 13), (13, o_ild 3 14), (14, o_ild 2 15), (15, o_isub 16), (16, o_ist 4 18), (18, o_ild 2 19), (19, o_ild 4 21), (21, o_ild 2 22), (22, o_push (.int (iI (2))) 23), (23, o_ald 0 24), (24, o_get 9 1 27), (27, o_ishl 28), (28, o_iadd 29), (29, o_call M_jAS_newLength 3 32), (32, o_ist 5 34), (34, o_ild 5 36), (36, o_push (.int (iI (2147483647))) 38), (38, o_icmp_ne 51 41), (44, o_dup 45), (51, o_ild 5 53), (53, o_ald 0 54), (54, o_get 9 1 57), (57, o_ishr 58), (58, o_iret)]
theorem k_jASB_newCapacity : ∀ x ∈ T_jASB_newCapacity, SO M_jASB_newCapacity x.1 x.2 := by
  obtain ⟨h0, h1, h4, h5, h6, h7, h8, h11, h12, h13, h14, h15⟩ := e0_jASB_newCapacity
  obtain ⟨h16, h18, h19, h21, h22, h23, h24, h27, h28, h29, h32, h34⟩ := e1_jASB_newCapacity
  obtain ⟨h36, h38, h41, h44, h45, h47, h50, h51, h53, h54, h57, h58⟩ := e2_jASB_newCapacity
  refine ac (s_aldn (M := M_jASB_newCapacity) (pc := 0) (k := 0) h0) ?_
  refine ac (s_get (M := M_jASB_newCapacity) (pc := 1) (T := TJ4) (N := 4) h1 rfl in_J4 (by decide) wd237) ?_
  refine ac (s_alenX (M := M_jASB_newCapacity) (pc := 4) h4) ?_
  refine ac (s_istn (M := M_jASB_newCapacity) (pc := 5) (k := 2) h5 (by decide)) ?_
  refine ac (s_ildn (M := M_jASB_newCapacity) (pc := 6) (k := 1) h6) ?_
  refine ac (s_aldn (M := M_jASB_newCapacity) (pc := 7) (k := 0) h7) ?_
  refine ac (s_get (M := M_jASB_newCapacity) (pc := 8) (T := TJ4) (N := 4) h8 rfl in_J4 (by decide) wd238) ?_
  refine ac (s_ishl (M := M_jASB_newCapacity) (pc := 11) h11) ?_
  refine ac (s_istn (M := M_jASB_newCapacity) (pc := 12) (k := 3) h12 (by decide)) ?_
  refine ac (s_ildn (M := M_jASB_newCapacity) (pc := 13) (k := 3) h13) ?_
  refine ac (s_ildn (M := M_jASB_newCapacity) (pc := 14) (k := 2) h14) ?_
  refine ac (s_isub (M := M_jASB_newCapacity) (pc := 15) h15) ?_
  refine ac (s_ist (M := M_jASB_newCapacity) (pc := 16) h16 (by decide)) ?_
  refine ac (s_ildn (M := M_jASB_newCapacity) (pc := 18) (k := 2) h18) ?_
  refine ac (s_ild (M := M_jASB_newCapacity) (pc := 19) h19) ?_
  refine ac (s_ildn (M := M_jASB_newCapacity) (pc := 21) (k := 2) h21) ?_
  refine ac (s_iconst (M := M_jASB_newCapacity) (pc := 22) h22 rfl) ?_
  refine ac (s_aldn (M := M_jASB_newCapacity) (pc := 23) (k := 0) h23) ?_
  refine ac (s_get (M := M_jASB_newCapacity) (pc := 24) (T := TJ4) (N := 4) h24 rfl in_J4 (by decide) wd238) ?_
  refine ac (s_ishl (M := M_jASB_newCapacity) (pc := 27) h27) ?_
  refine ac (s_iadd (M := M_jASB_newCapacity) (pc := 28) h28) ?_
  refine ac (s_callS (M := M_jASB_newCapacity) (pc := 29) (tz_jASB rfl) h29 q_jAS_newLength wd966 wd967) ?_
  refine ac (s_ist (M := M_jASB_newCapacity) (pc := 32) h32 (by decide)) ?_
  refine ac (s_ild (M := M_jASB_newCapacity) (pc := 34) h34) ?_
  refine ac (s_ldc (M := M_jASB_newCapacity) (pc := 36) h36 wd940) ?_
  refine ac (s_icmp_ne (M := M_jASB_newCapacity) (pc := 38) h38 (by decide)) ?_
  refine ac (s_dup (M := M_jASB_newCapacity) (pc := 44) h44) ?_
  refine ac (s_ild (M := M_jASB_newCapacity) (pc := 51) h51) ?_
  refine ac (s_aldn (M := M_jASB_newCapacity) (pc := 53) (k := 0) h53) ?_
  refine ac (s_get (M := M_jASB_newCapacity) (pc := 54) (T := TJ4) (N := 4) h54 rfl in_J4 (by decide) wd238) ?_
  refine ac (s_ishr (M := M_jASB_newCapacity) (pc := 57) h57) ?_
  refine ac (s_iret (M := M_jASB_newCapacity) (pc := 58) h58 rfl) ?_
  exact ac_nil
theorem e0_jAS_newLength : decode prog_37_method_27_code 0 = .ok (.iload_n 0, 1) ∧ decode prog_37_method_27_code 1 = .ok (.iload_n 1, 1) ∧ decode prog_37_method_27_code 2 = .ok (.iload_n 2, 1) ∧ decode prog_37_method_27_code 3 = .ok (.invokestatic 194, 3) ∧ decode prog_37_method_27_code 6 = .ok (.iadd, 1) ∧ decode prog_37_method_27_code 7 = .ok (.istore_n 3, 1) ∧ decode prog_37_method_27_code 8 = .ok (.iconst 0, 1) ∧ decode prog_37_method_27_code 9 = .ok (.iload_n 3, 1) ∧ decode prog_37_method_27_code 10 = .ok (.if_icmp .ge 11, 3) ∧ decode prog_37_method_27_code 13 = .ok (.iload_n 3, 1) ∧ decode prog_37_method_27_code 14 = .ok (.ldc 200, 2) ∧ decode prog_37_method_27_code 16 = .ok (.if_icmp .gt 5, 3) := by decide +kernel
theorem e1_jAS_newLength : decode prog_37_method_27_code 19 = .ok (.iload_n 3, 1) ∧ decode prog_37_method_27_code 20 = .ok (.ireturn, 1) ∧ decode prog_37_method_27_code 21 = .ok (.iload_n 0, 1) ∧ decode prog_37_method_27_code 22 = .ok (.iload_n 1, 1) ∧ decode prog_37_method_27_code 23 = .ok (.invokestatic 201, 3) ∧ decode prog_37_method_27_code 26 = .ok (.ireturn, 1) := by decide +kernel
def T_jAS_newLength : TT := [(0, o_ild 0 1), (1, o_ild 1 2), (2, o_ild 2 3), (3, o_call M_jMath_max 2 6), (6, o_iadd 7), (7, o_ist 3 8), (8, o_push (.int (iI (0))) 9), (9, o_ild 3 10), (10, o_icmp_ge 21 13), (13, o_ild 3 14), (14, o_push (.int (iI (2147483639))) 16), (16, o_icmp_gt 21 19), (19, o_ild 3 20), (20, o_iret), (21, o_ild 0 22), (22, o_ild 1 23), (23, o_call M_jAS_hugeLength 2 26), (26, o_iret)]
theorem k_jAS_newLength : ∀ x ∈ T_jAS_newLength, SO M_jAS_newLength x.1 x.2 := by
  obtain ⟨h0, h1, h2, h3, h6, h7, h8, h9, h10, h13, h14, h16⟩ := e0_jAS_newLength
  obtain ⟨h19, h20, h21, h22, h23, h26⟩ := e1_jAS_newLength
  refine ac (s_ildn (M := M_jAS_newLength) (pc := 0) (k := 0) h0) ?_
  refine ac (s_ildn (M := M_jAS_newLength) (pc := 1) (k := 1) h1) ?_
  refine ac (s_ildn (M := M_jAS_newLength) (pc := 2) (k := 2) h2) ?_
  refine ac (s_callS (M := M_jAS_newLength) (pc := 3) (tz_jAS rfl) h3 q_jMath_max wd969 wd795) ?_
  refine ac (s_iadd (M := M_jAS_newLength) (pc := 6) h6) ?_
  refine ac (s_istn (M := M_jAS_newLength) (pc := 7) (k := 3) h7 (by decide)) ?_
  refine ac (s_iconst (M := M_jAS_newLength) (pc := 8) h8 rfl) ?_
  refine ac (s_ildn (M := M_jAS_newLength) (pc := 9) (k := 3) h9) ?_
  refine ac (s_icmp_ge (M := M_jAS_newLength) (pc := 10) h10 (by decide)) ?_
  refine ac (s_ildn (M := M_jAS_newLength) (pc := 13) (k := 3) h13) ?_
  refine ac (s_ldc (M := M_jAS_newLength) (pc := 14) h14 wd970) ?_
  refine ac (s_icmp_gt (M := M_jAS_newLength) (pc := 16) h16 (by decide)) ?_
  refine ac (s_ildn (M := M_jAS_newLength) (pc := 19) (k := 3) h19) ?_
  refine ac (s_iret (M := M_jAS_newLength) (pc := 20) h20 rfl) ?_
  refine ac (s_ildn (M := M_jAS_newLength) (pc := 21) (k := 0) h21) ?_
  refine ac (s_ildn (M := M_jAS_newLength) (pc := 22) (k := 1) h22) ?_
  refine ac (s_callS (M := M_jAS_newLength) (pc := 23) (tz_jAS rfl) h23 q_jAS_hugeLength wd971 wd972) ?_
  refine ac (s_iret (M := M_jAS_newLength) (pc := 26) h26 rfl) ?_
  exact ac_nil
theorem e0_jArr_copyOf : decode prog_35_method_121_code 0 = .ok (.iload_n 1, 1) ∧ decode prog_35_method_121_code 1 = .ok (.aload_n 0, 1) ∧ decode prog_35_method_121_code 2 = .ok (.arraylength, 1) ∧ decode prog_35_method_121_code 3 = .ok (.if_icmp .ne 11, 3) ∧ decode prog_35_method_121_code 6 = .ok (.aload_n 0, 1) ∧ decode prog_35_method_121_code 7 = .ok (.invokevirtual 310, 3) ∧ decode prog_35_method_121_code 10 = .ok (.checkcast 311, 3) ∧ decode prog_35_method_121_code 13 = .ok (.areturn, 1) ∧ decode prog_35_method_121_code 14 = .ok (.iload_n 1, 1) ∧ decode prog_35_method_121_code 15 = .ok (.newarray .byte, 2) ∧ decode prog_35_method_121_code 17 = .ok (.astore_n 2, 1) ∧ decode prog_35_method_121_code 18 = .ok (.aload_n 0, 1) := by decide +kernel
theorem e1_jArr_copyOf : decode prog_35_method_121_code 19 = .ok (.iconst 0, 1) ∧ decode prog_35_method_121_code 20 = .ok (.aload_n 2, 1) ∧ decode prog_35_method_121_code 21 = .ok (.iconst 0, 1) ∧ decode prog_35_method_121_code 22 = .ok (.aload_n 0, 1) ∧ decode prog_35_method_121_code 23 = .ok (.arraylength, 1) ∧ decode prog_35_method_121_code 24 = .ok (.iload_n 1, 1) ∧ decode prog_35_method_121_code 25 = .ok (.invokestatic 304, 3) ∧ decode prog_35_method_121_code 28 = .ok (.invokestatic 150, 3) ∧ decode prog_35_method_121_code 31 = .ok (.aload_n 2, 1) ∧ decode prog_35_method_121_code 32 = .ok (.areturn, 1) := by decide +kernel
def T_jArr_copyOf : TT := [(0, o_ild 1 1), (1, o_ald 0 2), (2, o_alenX 3), (3, o_icmp_ne 14 6), (6, o_ald 0 7), (13, o_aret), (14, o_ild 1 15), (15, o_newai 0 17), (17, o_ast 2 18), (18, o_ald 0 19), (19, o_push (.int (iI (0))) 20), (20, o_ald 2 21), (21, o_push (.int (iI (0))) 22), (22, o_ald 0 23), (23, o_alenX 24), (24, o_ild 1 25), (25, o_call M_jMath_min 2 28), (28, o_copy 31), (31, o_ald 2 32), (32, o_aret)]
theorem k_jArr_copyOf : ∀ x ∈ T_jArr_copyOf, SO M_jArr_copyOf x.1 x.2 := by
  obtain ⟨h0, h1, h2, h3, h6, h7, h10, h13, h14, h15, h17, h18⟩ := e0_jArr_copyOf
  obtain ⟨h19, h20, h21, h22, h23, h24, h25, h28, h31, h32⟩ := e1_jArr_copyOf
  refine ac (s_ildn (M := M_jArr_copyOf) (pc := 0) (k := 1) h0) ?_
  refine ac (s_aldn (M := M_jArr_copyOf) (pc := 1) (k := 0) h1) ?_
  refine ac (s_alenX (M := M_jArr_copyOf) (pc := 2) h2) ?_
  refine ac (s_icmp_ne (M := M_jArr_copyOf) (pc := 3) h3 (by decide)) ?_
  refine ac (s_aldn (M := M_jArr_copyOf) (pc := 6) (k := 0) h6) ?_
  refine ac (s_aret (M := M_jArr_copyOf) (pc := 13) h13 rfl (Or.inr ⟨_, rfl⟩)) ?_
  refine ac (s_ildn (M := M_jArr_copyOf) (pc := 14) (k := 1) h14) ?_
  refine ac (s_newai (M := M_jArr_copyOf) (pc := 15) (t := 0) h15 rfl (fun _ => rfl) wd96 (by decide) (fun _ _ => rfl)) ?_
  refine ac (s_astn (M := M_jArr_copyOf) (pc := 17) (k := 2) h17 (by decide)) ?_
  refine ac (s_aldn (M := M_jArr_copyOf) (pc := 18) (k := 0) h18) ?_
  refine ac (s_iconst (M := M_jArr_copyOf) (pc := 19) h19 rfl) ?_
  refine ac (s_aldn (M := M_jArr_copyOf) (pc := 20) (k := 2) h20) ?_
  refine ac (s_iconst (M := M_jArr_copyOf) (pc := 21) h21 rfl) ?_
  refine ac (s_aldn (M := M_jArr_copyOf) (pc := 22) (k := 0) h22) ?_
  refine ac (s_alenX (M := M_jArr_copyOf) (pc := 23) h23) ?_
  refine ac (s_ildn (M := M_jArr_copyOf) (pc := 24) (k := 1) h24) ?_
  refine ac (s_callS (M := M_jArr_copyOf) (pc := 25) (tz_jArr rfl) h25 q_jMath_min wd984 wd612) ?_
  refine ac (s_copy (M := M_jArr_copyOf) (pc := 28) h28 wd985 wd987 wd986 wd36) ?_
  refine ac (s_aldn (M := M_jArr_copyOf) (pc := 31) (k := 2) h31) ?_
  refine ac (s_aret (M := M_jArr_copyOf) (pc := 32) h32 rfl (Or.inr ⟨_, rfl⟩)) ?_
  exact ac_nil
theorem e0_jASB_isLatin1 : decode prog_12_method_68_code 0 = .ok (.getstatic 18, 3) ∧ decode prog_12_method_68_code 3 = .ok (.ifCond .eq 14, 3) ∧ decode prog_12_method_68_code 6 = .ok (.aload_n 0, 1) ∧ decode prog_12_method_68_code 7 = .ok (.getfield 22, 3) ∧ decode prog_12_method_68_code 10 = .ok (.ifCond .ne 7, 3) ∧ decode prog_12_method_68_code 13 = .ok (.iconst 1, 1) ∧ decode prog_12_method_68_code 14 = .ok (.goto 4, 3) ∧ decode prog_12_method_68_code 17 = .ok (.iconst 0, 1) ∧ decode prog_12_method_68_code 18 = .ok (.ireturn, 1) := by decide +kernel
def T_jASB_isLatin1 : TT := [(0, o_push (.int (iI 1)) 3), (3, o_if_eq 17 6), (6, o_ald 0 7), (7, o_get 9 1 10), (10, o_if_ne 17 13), (13, o_push (.int (iI (1))) 14), (14, o_goto 18), (17, o_push (.int (iI (0))) 18), (18, o_zret)]
theorem k_jASB_isLatin1 : ∀ x ∈ T_jASB_isLatin1, SO M_jASB_isLatin1 x.1 x.2 := by
  obtain ⟨h0, h3, h6, h7, h10, h13, h14, h17, h18⟩ := e0_jASB_isLatin1
  refine ac (s_getC (M := M_jASB_isLatin1) (pc := 0) h0 wd228) ?_
  refine ac (s_if_eq (M := M_jASB_isLatin1) (pc := 3) h3 (by decide)) ?_
  refine ac (s_aldn (M := M_jASB_isLatin1) (pc := 6) (k := 0) h6) ?_
  refine ac (s_get (M := M_jASB_isLatin1) (pc := 7) (T := TJ4) (N := 4) h7 rfl in_J4 (by decide) wd238) ?_
  refine ac (s_if_ne (M := M_jASB_isLatin1) (pc := 10) h10 (by decide)) ?_
  refine ac (s_iconst (M := M_jASB_isLatin1) (pc := 13) h13 rfl) ?_
  refine ac (s_goto (M := M_jASB_isLatin1) (pc := 14) h14 (by decide)) ?_
  refine ac (s_iconst (M := M_jASB_isLatin1) (pc := 17) h17 rfl) ?_
  refine ac (s_zret (M := M_jASB_isLatin1) (pc := 18) h18 rfl) ?_
  exact ac_nil
theorem e0_jASB_putStringAt : decode prog_12_method_73_code 0 = .ok (.aload_n 0, 1) ∧ decode prog_12_method_73_code 1 = .ok (.aload_n 2, 1) ∧ decode prog_12_method_73_code 2 = .ok (.invokevirtual 397, 3) ∧ decode prog_12_method_73_code 5 = .ok (.aload_n 2, 1) ∧ decode prog_12_method_73_code 6 = .ok (.aload_n 0, 1) ∧ decode prog_12_method_73_code 7 = .ok (.getfield 15, 3) ∧ decode prog_12_method_73_code 10 = .ok (.iload_n 1, 1) ∧ decode prog_12_method_73_code 11 = .ok (.aload_n 0, 1) ∧ decode prog_12_method_73_code 12 = .ok (.getfield 22, 3) ∧ decode prog_12_method_73_code 15 = .ok (.invokevirtual 399, 3) ∧ decode prog_12_method_73_code 18 = .ok (.return_, 1) := by decide +kernel
def T_jASB_putStringAt : TT := [(0, o_ald 0 1), (1, o_ald 2 2), (2, o_callU M_jASB_inflateIfNeededFor 2 0 0 5), (5, o_ald 2 6), (6, o_ald 0 7), (7, o_get 9 0 10), (10, o_ild 1 11), (11, o_ald 0 12), (12, o_get 9 1 15), (15, o_callVS M_jStr_getBytes 4 18), (18, o_vret)]
theorem k_jASB_putStringAt : ∀ x ∈ T_jASB_putStringAt, SO M_jASB_putStringAt x.1 x.2 := by
  obtain ⟨h0, h1, h2, h5, h6, h7, h10, h11, h12, h15, h18⟩ := e0_jASB_putStringAt
  refine ac (s_aldn (M := M_jASB_putStringAt) (pc := 0) (k := 0) h0) ?_
  refine ac (s_aldn (M := M_jASB_putStringAt) (pc := 1) (k := 2) h1) ?_
  refine ac (s_callU (M := M_jASB_putStringAt) (pc := 2) (mc1 := 0) (ms1 := 0) (x := M_jASB_inflateIfNeededFor.1) (tz_jASB rfl) h2 q_jASB_inflateIfNeededFor rfl (by decide +kernel) wd1003 wd1297 (wdU 3 rfl) wd1005) ?_
  refine ac (s_aldn (M := M_jASB_putStringAt) (pc := 5) (k := 2) h5) ?_
  refine ac (s_aldn (M := M_jASB_putStringAt) (pc := 6) (k := 0) h6) ?_
  refine ac (s_get (M := M_jASB_putStringAt) (pc := 7) (T := TJ4) (N := 4) h7 rfl in_J4 (by decide) wd237) ?_
  refine ac (s_ildn (M := M_jASB_putStringAt) (pc := 10) (k := 1) h10) ?_
  refine ac (s_aldn (M := M_jASB_putStringAt) (pc := 11) (k := 0) h11) ?_
  refine ac (s_get (M := M_jASB_putStringAt) (pc := 12) (T := TJ4) (N := 4) h12 rfl in_J4 (by decide) wd238) ?_
  refine ac (s_callVS (M := M_jASB_putStringAt) (pc := 15) (tz_jASB rfl) h15 q_jStr_getBytes rfl wd1026 wd1027 wd1028) ?_
  refine ac (s_vret (M := M_jASB_putStringAt) (pc := 18) h18 rfl) ?_
  exact ac_nil
theorem e0_jASB_inflateIfNeededFor : decode prog_12_method_71_code 0 = .ok (.getstatic 18, 3) ∧ decode prog_12_method_71_code 3 = .ok (.ifCond .eq 18, 3) ∧ decode prog_12_method_71_code 6 = .ok (.aload_n 0, 1) ∧ decode prog_12_method_71_code 7 = .ok (.getfield 22, 3) ∧ decode prog_12_method_71_code 10 = .ok (.aload_n 1, 1) ∧ decode prog_12_method_71_code 11 = .ok (.invokevirtual 40, 3) ∧ decode prog_12_method_71_code 14 = .ok (.if_icmp .eq 7, 3) ∧ decode prog_12_method_71_code 17 = .ok (.aload_n 0, 1) ∧ decode prog_12_method_71_code 18 = .ok (.invokevirtual 195, 3) ∧ decode prog_12_method_71_code 21 = .ok (.return_, 1) := by decide +kernel
def T_jASB_inflateIfNeededFor : TT := [(0, o_push (.int (iI 1)) 3), (3, o_if_eq 21 6), (6, o_ald 0 7), (7, o_get 9 1 10), (10, o_ald 1 11), (11, o_callVS M_jStr_coder 1 14), (14, o_icmp_eq 21 17), (17, o_ald 0 18), (21, o_vret)]
theorem k_jASB_inflateIfNeededFor : ∀ x ∈ T_jASB_inflateIfNeededFor, SO M_jASB_inflateIfNeededFor x.1 x.2 := by
  obtain ⟨h0, h3, h6, h7, h10, h11, h14, h17, h18, h21⟩ := e0_jASB_inflateIfNeededFor
  refine ac (s_getC (M := M_jASB_inflateIfNeededFor) (pc := 0) h0 wd228) ?_
  refine ac (s_if_eq (M := M_jASB_inflateIfNeededFor) (pc := 3) h3 (by decide)) ?_
  refine ac (s_aldn (M := M_jASB_inflateIfNeededFor) (pc := 6) (k := 0) h6) ?_
  refine ac (s_get (M := M_jASB_inflateIfNeededFor) (pc := 7) (T := TJ4) (N := 4) h7 rfl in_J4 (by decide) wd238) ?_
  refine ac (s_aldn (M := M_jASB_inflateIfNeededFor) (pc := 10) (k := 1) h10) ?_
  refine ac (s_callVS (M := M_jASB_inflateIfNeededFor) (pc := 11) (tz_jASB rfl) h11 q_jStr_coder rfl wd941 wd676 wd677) ?_
  refine ac (s_icmp_eq (M := M_jASB_inflateIfNeededFor) (pc := 14) h14 (by decide)) ?_
  refine ac (s_aldn (M := M_jASB_inflateIfNeededFor) (pc := 17) (k := 0) h17) ?_
  refine ac (s_vret (M := M_jASB_inflateIfNeededFor) (pc := 21) h21 rfl) ?_
  exact ac_nil
theorem e0_jStr_getBytes : decode prog_27_method_147_code 0 = .ok (.aload_n 0, 1) ∧ decode prog_27_method_147_code 1 = .ok (.invokevirtual 335, 3) ∧ decode prog_27_method_147_code 4 = .ok (.iload_n 3, 1) ∧ decode prog_27_method_147_code 5 = .ok (.if_icmp .ne 23, 3) ∧ decode prog_27_method_147_code 8 = .ok (.aload_n 0, 1) ∧ decode prog_27_method_147_code 9 = .ok (.getfield 9, 3) ∧ decode prog_27_method_147_code 12 = .ok (.iconst 0, 1) ∧ decode prog_27_method_147_code 13 = .ok (.aload_n 1, 1) ∧ decode prog_27_method_147_code 14 = .ok (.iload_n 2, 1) ∧ decode prog_27_method_147_code 15 = .ok (.iload_n 3, 1) ∧ decode prog_27_method_147_code 16 = .ok (.ishl, 1) ∧ decode prog_27_method_147_code 17 = .ok (.aload_n 0, 1) := by decide +kernel
theorem e1_jStr_getBytes : decode prog_27_method_147_code 18 = .ok (.getfield 9, 3) ∧ decode prog_27_method_147_code 21 = .ok (.arraylength, 1) ∧ decode prog_27_method_147_code 22 = .ok (.invokestatic 212, 3) ∧ decode prog_27_method_147_code 25 = .ok (.goto 18, 3) ∧ decode prog_27_method_147_code 28 = .ok (.aload_n 0, 1) ∧ decode prog_27_method_147_code 29 = .ok (.getfield 9, 3) ∧ decode prog_27_method_147_code 32 = .ok (.iconst 0, 1) ∧ decode prog_27_method_147_code 33 = .ok (.aload_n 1, 1) ∧ decode prog_27_method_147_code 34 = .ok (.iload_n 2, 1) ∧ decode prog_27_method_147_code 35 = .ok (.aload_n 0, 1) ∧ decode prog_27_method_147_code 36 = .ok (.getfield 9, 3) ∧ decode prog_27_method_147_code 39 = .ok (.arraylength, 1) := by decide +kernel
theorem e2_jStr_getBytes : decode prog_27_method_147_code 40 = .ok (.invokestatic 106, 3) ∧ decode prog_27_method_147_code 43 = .ok (.return_, 1) := by decide +kernel
def T_jStr_getBytes : TT := [(0, o_ald 0 1), (1, o_callVS M_jStr_coder 1 4), (4, o_ild 3 5), (5, o_icmp_ne 28 8), (8, o_ald 0 9), (9, o_getSv 12), (12, o_push (.int (iI (0))) 13), (13, o_ald 1 14), (14, o_ild 2 15), (15, o_ild 3 16), (16, o_ishl 17), (17, o_ald 0 18), (18, o_getSv 21), (21, o_alenX 22), (22, o_copy 25), (25, o_goto 43), (28, o_ald 0 29), (29, o_getSv 32), (32, o_push (.int (iI (0))) 33), (33, o_ald 1 34), (34, o_ild 2 35), (35, o_ald 0 36), (36, o_getSv 39), (39, o_alenX 40), (40, o_call M_jLat_inflate 5 43), (43, o_vret)]
theorem k_jStr_getBytes : ∀ x ∈ T_jStr_getBytes, SO M_jStr_getBytes x.1 x.2 := by
  obtain ⟨h0, h1, h4, h5, h8, h9, h12, h13, h14, h15, h16, h17⟩ := e0_jStr_getBytes
  obtain ⟨h18, h21, h22, h25, h28, h29, h32, h33, h34, h35, h36, h39⟩ := e1_jStr_getBytes
  obtain ⟨h40, h43⟩ := e2_jStr_getBytes
  refine ac (s_aldn (M := M_jStr_getBytes) (pc := 0) (k := 0) h0) ?_
  refine ac (s_callVS (M := M_jStr_getBytes) (pc := 1) (tz_jStr rfl) h1 q_jStr_coder rfl wd675 wd676 wd677) ?_
  refine ac (s_ildn (M := M_jStr_getBytes) (pc := 4) (k := 3) h4) ?_
  refine ac (s_icmp_ne (M := M_jStr_getBytes) (pc := 5) h5 (by decide)) ?_
  refine ac (s_aldn (M := M_jStr_getBytes) (pc := 8) (k := 0) h8) ?_
  refine ac (s_getSv (M := M_jStr_getBytes) (pc := 9) h9 wd1119) ?_
  refine ac (s_iconst (M := M_jStr_getBytes) (pc := 12) h12 rfl) ?_
  refine ac (s_aldn (M := M_jStr_getBytes) (pc := 13) (k := 1) h13) ?_
  refine ac (s_ildn (M := M_jStr_getBytes) (pc := 14) (k := 2) h14) ?_
  refine ac (s_ildn (M := M_jStr_getBytes) (pc := 15) (k := 3) h15) ?_
  refine ac (s_ishl (M := M_jStr_getBytes) (pc := 16) h16) ?_
  refine ac (s_aldn (M := M_jStr_getBytes) (pc := 17) (k := 0) h17) ?_
  refine ac (s_getSv (M := M_jStr_getBytes) (pc := 18) h18 wd1119) ?_
  refine ac (s_alenX (M := M_jStr_getBytes) (pc := 21) h21) ?_
  refine ac (s_copy (M := M_jStr_getBytes) (pc := 22) h22 wd1030 wd987 wd986 wd36) ?_
  refine ac (s_goto (M := M_jStr_getBytes) (pc := 25) h25 (by decide)) ?_
  refine ac (s_aldn (M := M_jStr_getBytes) (pc := 28) (k := 0) h28) ?_
  refine ac (s_getSv (M := M_jStr_getBytes) (pc := 29) h29 wd1119) ?_
  refine ac (s_iconst (M := M_jStr_getBytes) (pc := 32) h32 rfl) ?_
  refine ac (s_aldn (M := M_jStr_getBytes) (pc := 33) (k := 1) h33) ?_
  refine ac (s_ildn (M := M_jStr_getBytes) (pc := 34) (k := 2) h34) ?_
  refine ac (s_aldn (M := M_jStr_getBytes) (pc := 35) (k := 0) h35) ?_
  refine ac (s_getSv (M := M_jStr_getBytes) (pc := 36) h36 wd1119) ?_
  refine ac (s_alenX (M := M_jStr_getBytes) (pc := 39) h39) ?_
  refine ac (s_callS (M := M_jStr_getBytes) (pc := 40) (tz_jStr rfl) h40 q_jLat_inflate wd1031 wd1012) ?_
  refine ac (s_vret (M := M_jStr_getBytes) (pc := 43) h43 rfl) ?_
  exact ac_nil
theorem e0_jSB_append_C : decode prog_28_method_14_code 0 = .ok (.aload_n 0, 1) ∧ decode prog_28_method_14_code 1 = .ok (.iload_n 1, 1) ∧ decode prog_28_method_14_code 2 = .ok (.invokespecial 50, 3) ∧ decode prog_28_method_14_code 5 = .ok (.pop, 1) ∧ decode prog_28_method_14_code 6 = .ok (.aload_n 0, 1) ∧ decode prog_28_method_14_code 7 = .ok (.areturn, 1) := by decide +kernel
def T_jSB_append_C : TT := [(0, o_ald 0 1), (1, o_ild 1 2), (2, o_alt (o_callU M_jASB_append_C 2 0 0 5) (o_callU M_jASB_append_C 2 1 46 5)), (5, o_pop 6), (6, o_ald 0 7), (7, o_aret)]
theorem k_jSB_append_C : ∀ x ∈ T_jSB_append_C, SO M_jSB_append_C x.1 x.2 := by
  obtain ⟨h0, h1, h2, h5, h6, h7⟩ := e0_jSB_append_C
  refine ac (s_aldn (M := M_jSB_append_C) (pc := 0) (k := 0) h0) ?_
  refine ac (s_ildn (M := M_jSB_append_C) (pc := 1) (k := 1) h1) ?_
  refine ac (s_alt (s_callSU (M := M_jSB_append_C) (pc := 2) (mc1 := 0) (ms1 := 0) (tz_jSB rfl) h2 q_jASB_append_C (by decide) wd1036 wd1299 wd249 wd1037) (s_callSU (M := M_jSB_append_C) (pc := 2) (mc1 := 1) (ms1 := 46) (tz_jSB rfl) h2 q_jASB_append_C (by decide) wd1036 wd1299 wd249 wd1037)) ?_
  refine ac (s_pop (M := M_jSB_append_C) (pc := 5) h5) ?_
  refine ac (s_aldn (M := M_jSB_append_C) (pc := 6) (k := 0) h6) ?_
  refine ac (s_aret (M := M_jSB_append_C) (pc := 7) h7 rfl (Or.inl ⟨_, rfl⟩)) ?_
  exact ac_nil
theorem e0_jASB_append_C : decode prog_12_method_31_code 0 = .ok (.aload_n 0, 1) ∧ decode prog_12_method_31_code 1 = .ok (.aload_n 0, 1) ∧ decode prog_12_method_31_code 2 = .ok (.getfield 79, 3) ∧ decode prog_12_method_31_code 5 = .ok (.iconst 1, 1) ∧ decode prog_12_method_31_code 6 = .ok (.iadd, 1) ∧ decode prog_12_method_31_code 7 = .ok (.invokevirtual 100, 3) ∧ decode prog_12_method_31_code 10 = .ok (.aload_n 0, 1) ∧ decode prog_12_method_31_code 11 = .ok (.invokevirtual 83, 3) ∧ decode prog_12_method_31_code 14 = .ok (.ifCond .eq 31, 3) ∧ decode prog_12_method_31_code 17 = .ok (.iload_n 1, 1) ∧ decode prog_12_method_31_code 18 = .ok (.invokestatic 191, 3) ∧ decode prog_12_method_31_code 21 = .ok (.ifCond .eq 24, 3) := by decide +kernel
theorem e1_jASB_append_C : decode prog_12_method_31_code 24 = .ok (.aload_n 0, 1) ∧ decode prog_12_method_31_code 25 = .ok (.getfield 15, 3) ∧ decode prog_12_method_31_code 28 = .ok (.aload_n 0, 1) ∧ decode prog_12_method_31_code 29 = .ok (.dup, 1) ∧ decode prog_12_method_31_code 30 = .ok (.getfield 79, 3) ∧ decode prog_12_method_31_code 33 = .ok (.dup_x1, 1) ∧ decode prog_12_method_31_code 34 = .ok (.iconst 1, 1) ∧ decode prog_12_method_31_code 35 = .ok (.iadd, 1) ∧ decode prog_12_method_31_code 36 = .ok (.putfield 79, 3) ∧ decode prog_12_method_31_code 39 = .ok (.iload_n 1, 1) ∧ decode prog_12_method_31_code 40 = .ok (.i2b, 1) ∧ decode prog_12_method_31_code 41 = .ok (.bastore, 1) := by decide +kernel
theorem e2_jASB_append_C : decode prog_12_method_31_code 42 = .ok (.goto 33, 3) ∧ decode prog_12_method_31_code 45 = .ok (.aload_n 0, 1) ∧ decode prog_12_method_31_code 46 = .ok (.invokevirtual 83, 3) ∧ decode prog_12_method_31_code 49 = .ok (.ifCond .eq 7, 3) ∧ decode prog_12_method_31_code 52 = .ok (.aload_n 0, 1) ∧ decode prog_12_method_31_code 53 = .ok (.invokevirtual 195, 3) ∧ decode prog_12_method_31_code 56 = .ok (.aload_n 0, 1) ∧ decode prog_12_method_31_code 57 = .ok (.getfield 15, 3) ∧ decode prog_12_method_31_code 60 = .ok (.aload_n 0, 1) ∧ decode prog_12_method_31_code 61 = .ok (.dup, 1) ∧ decode prog_12_method_31_code 62 = .ok (.getfield 79, 3) ∧ decode prog_12_method_31_code 65 = .ok (.dup_x1, 1) := by decide +kernel
theorem e3_jASB_append_C : decode prog_12_method_31_code 66 = .ok (.iconst 1, 1) ∧ decode prog_12_method_31_code 67 = .ok (.iadd, 1) ∧ decode prog_12_method_31_code 68 = .ok (.putfield 79, 3) ∧ decode prog_12_method_31_code 71 = .ok (.iload_n 1, 1) ∧ decode prog_12_method_31_code 72 = .ok (.invokestatic 197, 3) ∧ decode prog_12_method_31_code 75 = .ok (.aload_n 0, 1) ∧ decode prog_12_method_31_code 76 = .ok (.areturn, 1) := by decide +kernel
def T_jASB_append_C : TT := [(0, o_ald 0 1), (1, o_ald 0 2), (2, o_get 9 3 5), (5, o_push (.int (iI (1))) 6), (6, o_iadd 7), (7, o_alt (o_callU M_jASB_ensureCapacityInternal 2 0 0 10) (o_callU M_jASB_ensureCapacityInternal 2 1 46 10)), (10, o_ald 0 11), (11, o_callU M_jASB_isLatin1 1 0 0 14), (14, o_if_eq 45 17), (17, o_ild 1 18), (18, o_call M_jLat_canEncode_C 1 21), (21, o_if_eq 45 24), (24, o_ald 0 25), (25, o_get 9 0 28), (28, o_ald 0 29), (29, o_dup 30), (30, o_get 9 3 33), (33, o_dup_x1 34), (34, o_push (.int (iI (1))) 35), (35, o_iadd 36), (36, o_puti 9 3 39), (39, o_ild 1 40), (40, o_i2b 41), (41, o_bast 42), (42, o_goto 75), (45, o_ald 0 46), (46, o_callU M_jASB_isLatin1 1 0 0 49), (49, o_if_eq 56 52), (52, o_ald 0 53), (56, o_ald 0 57), (57, o_get 9 0 60), (60, o_ald 0 61), (61, o_dup 62), (62, o_get 9 3 65), (65, o_dup_x1 66), (66, o_push (.int (iI (1))) 67), (67, o_iadd 68), (68, o_puti 9 3 71), (71, o_ild 1 72), (72, o_call M_jU16_putCharSB 3 75), (75, o_ald 0 76), (76, o_aret)]
theorem k_jASB_append_C : ∀ x ∈ T_jASB_append_C, SO M_jASB_append_C x.1 x.2 := by
  obtain ⟨h0, h1, h2, h5, h6, h7, h10, h11, h14, h17, h18, h21⟩ := e0_jASB_append_C
  obtain ⟨h24, h25, h28, h29, h30, h33, h34, h35, h36, h39, h40, h41⟩ := e1_jASB_append_C
  obtain ⟨h42, h45, h46, h49, h52, h53, h56, h57, h60, h61, h62, h65⟩ := e2_jASB_append_C
  obtain ⟨h66, h67, h68, h71, h72, h75, h76⟩ := e3_jASB_append_C
  refine ac (s_aldn (M := M_jASB_append_C) (pc := 0) (k := 0) h0) ?_
  refine ac (s_aldn (M := M_jASB_append_C) (pc := 1) (k := 0) h1) ?_
  refine ac (s_get (M := M_jASB_append_C) (pc := 2) (T := TJ4) (N := 4) h2 rfl in_J4 (by decide) wd240) ?_
  refine ac (s_iconst (M := M_jASB_append_C) (pc := 5) h5 rfl) ?_
  refine ac (s_iadd (M := M_jASB_append_C) (pc := 6) h6) ?_
  refine ac (s_alt (s_callU (M := M_jASB_append_C) (pc := 7) (mc1 := 0) (ms1 := 0) (x := M_jASB_ensureCapacityInternal.1) (tz_jASB rfl) h7 q_jASB_ensureCapacityInternal rfl (by decide +kernel) wd958 wd1294 (wdU 0 rfl) wd960) (s_callU (M := M_jASB_append_C) (pc := 7) (mc1 := 1) (ms1 := 46) (x := M_jASB_ensureCapacityInternal.1) (tz_jASB rfl) h7 q_jASB_ensureCapacityInternal rfl (by decide +kernel) wd958 wd1294 (wdU 0 rfl) wd960)) ?_
  refine ac (s_aldn (M := M_jASB_append_C) (pc := 10) (k := 0) h10) ?_
  refine ac (s_callU (M := M_jASB_append_C) (pc := 11) (mc1 := 0) (ms1 := 0) (x := M_jASB_isLatin1.1) (tz_jASB rfl) h11 q_jASB_isLatin1 rfl (by decide +kernel) wd988 wd990 wd991 wd989) ?_
  refine ac (s_if_eq (M := M_jASB_append_C) (pc := 14) h14 (by decide)) ?_
  refine ac (s_ildn (M := M_jASB_append_C) (pc := 17) (k := 1) h17) ?_
  refine ac (s_callS (M := M_jASB_append_C) (pc := 18) (tz_jASB rfl) h18 q_jLat_canEncode_C wd1039 wd1040) ?_
  refine ac (s_if_eq (M := M_jASB_append_C) (pc := 21) h21 (by decide)) ?_
  refine ac (s_aldn (M := M_jASB_append_C) (pc := 24) (k := 0) h24) ?_
  refine ac (s_get (M := M_jASB_append_C) (pc := 25) (T := TJ4) (N := 4) h25 rfl in_J4 (by decide) wd237) ?_
  refine ac (s_aldn (M := M_jASB_append_C) (pc := 28) (k := 0) h28) ?_
  refine ac (s_dup (M := M_jASB_append_C) (pc := 29) h29) ?_
  refine ac (s_get (M := M_jASB_append_C) (pc := 30) (T := TJ4) (N := 4) h30 rfl in_J4 (by decide) wd240) ?_
  refine ac (s_dup_x1 (M := M_jASB_append_C) (pc := 33) h33) ?_
  refine ac (s_iconst (M := M_jASB_append_C) (pc := 34) h34 rfl) ?_
  refine ac (s_iadd (M := M_jASB_append_C) (pc := 35) h35) ?_
  refine ac (s_puti (M := M_jASB_append_C) (pc := 36) (T := TJ4) (N := 4) (ty0 := tyJ4) h36 ⟨rfl, in_J4, by decide, wd240, tyJ4_ok, nmJ4, (Or.inl rfl)⟩ rfl) ?_
  refine ac (s_ildn (M := M_jASB_append_C) (pc := 39) (k := 1) h39) ?_
  refine ac (s_i2b (M := M_jASB_append_C) (pc := 40) h40) ?_
  refine ac (s_bast (M := M_jASB_append_C) (pc := 41) h41) ?_
  refine ac (s_goto (M := M_jASB_append_C) (pc := 42) h42 (by decide)) ?_
  refine ac (s_aldn (M := M_jASB_append_C) (pc := 45) (k := 0) h45) ?_
  refine ac (s_callU (M := M_jASB_append_C) (pc := 46) (mc1 := 0) (ms1 := 0) (x := M_jASB_isLatin1.1) (tz_jASB rfl) h46 q_jASB_isLatin1 rfl (by decide +kernel) wd988 wd990 wd991 wd989) ?_
  refine ac (s_if_eq (M := M_jASB_append_C) (pc := 49) h49 (by decide)) ?_
  refine ac (s_aldn (M := M_jASB_append_C) (pc := 52) (k := 0) h52) ?_
  refine ac (s_aldn (M := M_jASB_append_C) (pc := 56) (k := 0) h56) ?_
  refine ac (s_get (M := M_jASB_append_C) (pc := 57) (T := TJ4) (N := 4) h57 rfl in_J4 (by decide) wd237) ?_
  refine ac (s_aldn (M := M_jASB_append_C) (pc := 60) (k := 0) h60) ?_
  refine ac (s_dup (M := M_jASB_append_C) (pc := 61) h61) ?_
  refine ac (s_get (M := M_jASB_append_C) (pc := 62) (T := TJ4) (N := 4) h62 rfl in_J4 (by decide) wd240) ?_
  refine ac (s_dup_x1 (M := M_jASB_append_C) (pc := 65) h65) ?_
  refine ac (s_iconst (M := M_jASB_append_C) (pc := 66) h66 rfl) ?_
  refine ac (s_iadd (M := M_jASB_append_C) (pc := 67) h67) ?_
  refine ac (s_puti (M := M_jASB_append_C) (pc := 68) (T := TJ4) (N := 4) (ty0 := tyJ4) h68 ⟨rfl, in_J4, by decide, wd240, tyJ4_ok, nmJ4, (Or.inl rfl)⟩ rfl) ?_
  refine ac (s_ildn (M := M_jASB_append_C) (pc := 71) (k := 1) h71) ?_
  refine ac (s_callS (M := M_jASB_append_C) (pc := 72) (tz_jASB rfl) h72 q_jU16_putCharSB wd1042 wd1043) ?_
  refine ac (s_aldn (M := M_jASB_append_C) (pc := 75) (k := 0) h75) ?_
  refine ac (s_aret (M := M_jASB_append_C) (pc := 76) h76 rfl (Or.inl ⟨_, rfl⟩)) ?_
  exact ac_nil
theorem e0_jLat_canEncode_C : decode prog_29_method_3_code 0 = .ok (.iload_n 0, 1) ∧ decode prog_29_method_3_code 1 = .ok (.sipush 255, 3) ∧ decode prog_29_method_3_code 4 = .ok (.if_icmp .gt 7, 3) ∧ decode prog_29_method_3_code 7 = .ok (.iconst 1, 1) ∧ decode prog_29_method_3_code 8 = .ok (.goto 4, 3) ∧ decode prog_29_method_3_code 11 = .ok (.iconst 0, 1) ∧ decode prog_29_method_3_code 12 = .ok (.ireturn, 1) := by decide +kernel
def T_jLat_canEncode_C : TT := [(0, o_ild 0 1), (1, o_push (.int (iI (255))) 4), (4, o_icmp_gt 11 7), (7, o_push (.int (iI (1))) 8), (8, o_goto 12), (11, o_push (.int (iI (0))) 12), (12, o_zret)]
theorem k_jLat_canEncode_C : ∀ x ∈ T_jLat_canEncode_C, SO M_jLat_canEncode_C x.1 x.2 := by
  obtain ⟨h0, h1, h4, h7, h8, h11, h12⟩ := e0_jLat_canEncode_C
  refine ac (s_ildn (M := M_jLat_canEncode_C) (pc := 0) (k := 0) h0) ?_
  refine ac (s_sipush (M := M_jLat_canEncode_C) (pc := 1) h1 (by decide)) ?_
  refine ac (s_icmp_gt (M := M_jLat_canEncode_C) (pc := 4) h4 (by decide)) ?_
  refine ac (s_iconst (M := M_jLat_canEncode_C) (pc := 7) h7 rfl) ?_
  refine ac (s_goto (M := M_jLat_canEncode_C) (pc := 8) h8 (by decide)) ?_
  refine ac (s_iconst (M := M_jLat_canEncode_C) (pc := 11) h11 rfl) ?_
  refine ac (s_zret (M := M_jLat_canEncode_C) (pc := 12) h12 rfl) ?_
  exact ac_nil
theorem e0_jSB_append_I : decode prog_28_method_15_code 0 = .ok (.aload_n 0, 1) ∧ decode prog_28_method_15_code 1 = .ok (.iload_n 1, 1) ∧ decode prog_28_method_15_code 2 = .ok (.invokespecial 53, 3) ∧ decode prog_28_method_15_code 5 = .ok (.pop, 1) ∧ decode prog_28_method_15_code 6 = .ok (.aload_n 0, 1) ∧ decode prog_28_method_15_code 7 = .ok (.areturn, 1) := by decide +kernel
def T_jSB_append_I : TT := [(0, o_ald 0 1), (1, o_ild 1 2), (2, o_alt (o_callU M_jASB_append_I 2 0 0 5) (o_callU M_jASB_append_I 2 1 46 5)), (5, o_pop 6), (6, o_ald 0 7), (7, o_aret)]
theorem k_jSB_append_I : ∀ x ∈ T_jSB_append_I, SO M_jSB_append_I x.1 x.2 := by
  obtain ⟨h0, h1, h2, h5, h6, h7⟩ := e0_jSB_append_I
  refine ac (s_aldn (M := M_jSB_append_I) (pc := 0) (k := 0) h0) ?_
  refine ac (s_ildn (M := M_jSB_append_I) (pc := 1) (k := 1) h1) ?_
  refine ac (s_alt (s_callSU (M := M_jSB_append_I) (pc := 2) (mc1 := 0) (ms1 := 0) (tz_jSB rfl) h2 q_jASB_append_I (by decide) wd1049 wd1300 wd249 wd1050) (s_callSU (M := M_jSB_append_I) (pc := 2) (mc1 := 1) (ms1 := 46) (tz_jSB rfl) h2 q_jASB_append_I (by decide) wd1049 wd1300 wd249 wd1050)) ?_
  refine ac (s_pop (M := M_jSB_append_I) (pc := 5) h5) ?_
  refine ac (s_aldn (M := M_jSB_append_I) (pc := 6) (k := 0) h6) ?_
  refine ac (s_aret (M := M_jSB_append_I) (pc := 7) h7 rfl (Or.inl ⟨_, rfl⟩)) ?_
  exact ac_nil
theorem e0_jASB_append_I : decode prog_12_method_32_code 0 = .ok (.aload_n 0, 1) ∧ decode prog_12_method_32_code 1 = .ok (.getfield 79, 3) ∧ decode prog_12_method_32_code 4 = .ok (.istore_n 2, 1) ∧ decode prog_12_method_32_code 5 = .ok (.iload_n 2, 1) ∧ decode prog_12_method_32_code 6 = .ok (.iload_n 1, 1) ∧ decode prog_12_method_32_code 7 = .ok (.invokestatic 245, 3) ∧ decode prog_12_method_32_code 10 = .ok (.iadd, 1) ∧ decode prog_12_method_32_code 11 = .ok (.istore_n 3, 1) ∧ decode prog_12_method_32_code 12 = .ok (.aload_n 0, 1) ∧ decode prog_12_method_32_code 13 = .ok (.iload_n 3, 1) ∧ decode prog_12_method_32_code 14 = .ok (.invokevirtual 100, 3) ∧ decode prog_12_method_32_code 17 = .ok (.aload_n 0, 1) := by decide +kernel
theorem e1_jASB_append_I : decode prog_12_method_32_code 18 = .ok (.invokevirtual 83, 3) ∧ decode prog_12_method_32_code 21 = .ok (.ifCond .eq 16, 3) ∧ decode prog_12_method_32_code 24 = .ok (.iload_n 1, 1) ∧ decode prog_12_method_32_code 25 = .ok (.iload_n 3, 1) ∧ decode prog_12_method_32_code 26 = .ok (.aload_n 0, 1) ∧ decode prog_12_method_32_code 27 = .ok (.getfield 15, 3) ∧ decode prog_12_method_32_code 30 = .ok (.invokestatic 248, 3) ∧ decode prog_12_method_32_code 33 = .ok (.pop, 1) ∧ decode prog_12_method_32_code 34 = .ok (.goto 14, 3) ∧ decode prog_12_method_32_code 37 = .ok (.iload_n 1, 1) ∧ decode prog_12_method_32_code 38 = .ok (.iload_n 2, 1) ∧ decode prog_12_method_32_code 39 = .ok (.iload_n 3, 1) := by decide +kernel
theorem e2_jASB_append_I : decode prog_12_method_32_code 40 = .ok (.aload_n 0, 1) ∧ decode prog_12_method_32_code 41 = .ok (.getfield 15, 3) ∧ decode prog_12_method_32_code 44 = .ok (.invokestatic 251, 3) ∧ decode prog_12_method_32_code 47 = .ok (.pop, 1) ∧ decode prog_12_method_32_code 48 = .ok (.aload_n 0, 1) ∧ decode prog_12_method_32_code 49 = .ok (.iload_n 3, 1) ∧ decode prog_12_method_32_code 50 = .ok (.putfield 79, 3) ∧ decode prog_12_method_32_code 53 = .ok (.aload_n 0, 1) ∧ decode prog_12_method_32_code 54 = .ok (.areturn, 1) := by decide +kernel
def T_jASB_append_I : TT := [(0, o_ald 0 1), (1, o_get 9 3 4), (4, o_ist 2 5), (5, o_ild 2 6), (6, o_ild 1 7), (7, o_call M_jInt_stringSize 1 10), (10, o_iadd 11), (11, o_ist 3 12), (12, o_ald 0 13), (13, o_ild 3 14), (14, o_alt (o_callU M_jASB_ensureCapacityInternal 2 0 0 17) (o_callU M_jASB_ensureCapacityInternal 2 1 46 17)), (17, o_ald 0 18), (18, o_callU M_jASB_isLatin1 1 0 0 21), (21, o_if_eq 37 24), (24, o_ild 1 25), (25, o_ild 3 26), (26, o_ald 0 27), (27, o_get 9 0 30), (30, o_call M_jInt_getChars 3 33), (33, o_pop 34), (34, o_goto 48), (37, o_ild 1 38), (38, o_ild 2 39), (39, o_ild 3 40), (40, o_ald 0 41), (41, o_get 9 0 44), (44, o_call M_jU16_getChars_IIIAB 4 47), (47, o_pop 48), (48, o_ald 0 49), (49, o_ild 3 50), (50, o_puti 9 3 53), (53, o_ald 0 54), (54, o_aret)]
theorem k_jASB_append_I : ∀ x ∈ T_jASB_append_I, SO M_jASB_append_I x.1 x.2 := by
  obtain ⟨h0, h1, h4, h5, h6, h7, h10, h11, h12, h13, h14, h17⟩ := e0_jASB_append_I
  obtain ⟨h18, h21, h24, h25, h26, h27, h30, h33, h34, h37, h38, h39⟩ := e1_jASB_append_I
  obtain ⟨h40, h41, h44, h47, h48, h49, h50, h53, h54⟩ := e2_jASB_append_I
  refine ac (s_aldn (M := M_jASB_append_I) (pc := 0) (k := 0) h0) ?_
  refine ac (s_get (M := M_jASB_append_I) (pc := 1) (T := TJ4) (N := 4) h1 rfl in_J4 (by decide) wd240) ?_
  refine ac (s_istn (M := M_jASB_append_I) (pc := 4) (k := 2) h4 (by decide)) ?_
  refine ac (s_ildn (M := M_jASB_append_I) (pc := 5) (k := 2) h5) ?_
  refine ac (s_ildn (M := M_jASB_append_I) (pc := 6) (k := 1) h6) ?_
  refine ac (s_callS (M := M_jASB_append_I) (pc := 7) (tz_jASB rfl) h7 q_jInt_stringSize wd1052 wd1053) ?_
  refine ac (s_iadd (M := M_jASB_append_I) (pc := 10) h10) ?_
  refine ac (s_istn (M := M_jASB_append_I) (pc := 11) (k := 3) h11 (by decide)) ?_
  refine ac (s_aldn (M := M_jASB_append_I) (pc := 12) (k := 0) h12) ?_
  refine ac (s_ildn (M := M_jASB_append_I) (pc := 13) (k := 3) h13) ?_
  refine ac (s_alt (s_callU (M := M_jASB_append_I) (pc := 14) (mc1 := 0) (ms1 := 0) (x := M_jASB_ensureCapacityInternal.1) (tz_jASB rfl) h14 q_jASB_ensureCapacityInternal rfl (by decide +kernel) wd958 wd1294 (wdU 0 rfl) wd960) (s_callU (M := M_jASB_append_I) (pc := 14) (mc1 := 1) (ms1 := 46) (x := M_jASB_ensureCapacityInternal.1) (tz_jASB rfl) h14 q_jASB_ensureCapacityInternal rfl (by decide +kernel) wd958 wd1294 (wdU 0 rfl) wd960)) ?_
  refine ac (s_aldn (M := M_jASB_append_I) (pc := 17) (k := 0) h17) ?_
  refine ac (s_callU (M := M_jASB_append_I) (pc := 18) (mc1 := 0) (ms1 := 0) (x := M_jASB_isLatin1.1) (tz_jASB rfl) h18 q_jASB_isLatin1 rfl (by decide +kernel) wd988 wd990 wd991 wd989) ?_
  refine ac (s_if_eq (M := M_jASB_append_I) (pc := 21) h21 (by decide)) ?_
  refine ac (s_ildn (M := M_jASB_append_I) (pc := 24) (k := 1) h24) ?_
  refine ac (s_ildn (M := M_jASB_append_I) (pc := 25) (k := 3) h25) ?_
  refine ac (s_aldn (M := M_jASB_append_I) (pc := 26) (k := 0) h26) ?_
  refine ac (s_get (M := M_jASB_append_I) (pc := 27) (T := TJ4) (N := 4) h27 rfl in_J4 (by decide) wd237) ?_
  refine ac (s_callS (M := M_jASB_append_I) (pc := 30) (tz_jASB rfl) h30 q_jInt_getChars wd1055 wd1056) ?_
  refine ac (s_pop (M := M_jASB_append_I) (pc := 33) h33) ?_
  refine ac (s_goto (M := M_jASB_append_I) (pc := 34) h34 (by decide)) ?_
  refine ac (s_ildn (M := M_jASB_append_I) (pc := 37) (k := 1) h37) ?_
  refine ac (s_ildn (M := M_jASB_append_I) (pc := 38) (k := 2) h38) ?_
  refine ac (s_ildn (M := M_jASB_append_I) (pc := 39) (k := 3) h39) ?_
  refine ac (s_aldn (M := M_jASB_append_I) (pc := 40) (k := 0) h40) ?_
  refine ac (s_get (M := M_jASB_append_I) (pc := 41) (T := TJ4) (N := 4) h41 rfl in_J4 (by decide) wd237) ?_
  refine ac (s_callS (M := M_jASB_append_I) (pc := 44) (tz_jASB rfl) h44 q_jU16_getChars_IIIAB wd1062 wd1063) ?_
  refine ac (s_pop (M := M_jASB_append_I) (pc := 47) h47) ?_
  refine ac (s_aldn (M := M_jASB_append_I) (pc := 48) (k := 0) h48) ?_
  refine ac (s_ildn (M := M_jASB_append_I) (pc := 49) (k := 3) h49) ?_
  refine ac (s_puti (M := M_jASB_append_I) (pc := 50) (T := TJ4) (N := 4) (ty0 := tyJ4) h50 ⟨rfl, in_J4, by decide, wd240, tyJ4_ok, nmJ4, (Or.inl rfl)⟩ rfl) ?_
  refine ac (s_aldn (M := M_jASB_append_I) (pc := 53) (k := 0) h53) ?_
  refine ac (s_aret (M := M_jASB_append_I) (pc := 54) h54 rfl (Or.inl ⟨_, rfl⟩)) ?_
  exact ac_nil
theorem e0_jInt_stringSize : decode prog_22_method_13_code 0 = .ok (.iconst 1, 1) ∧ decode prog_22_method_13_code 1 = .ok (.istore_n 1, 1) ∧ decode prog_22_method_13_code 2 = .ok (.iload_n 0, 1) ∧ decode prog_22_method_13_code 3 = .ok (.ifCond .lt 8, 3) ∧ decode prog_22_method_13_code 6 = .ok (.iconst 0, 1) ∧ decode prog_22_method_13_code 7 = .ok (.istore_n 1, 1) ∧ decode prog_22_method_13_code 8 = .ok (.iload_n 0, 1) ∧ decode prog_22_method_13_code 9 = .ok (.ineg, 1) ∧ decode prog_22_method_13_code 10 = .ok (.istore_n 0, 1) ∧ decode prog_22_method_13_code 11 = .ok (.bipush (-10), 2) ∧ decode prog_22_method_13_code 13 = .ok (.istore_n 2, 1) ∧ decode prog_22_method_13_code 14 = .ok (.iconst 1, 1) := by decide +kernel
theorem e1_jInt_stringSize : decode prog_22_method_13_code 15 = .ok (.istore_n 3, 1) ∧ decode prog_22_method_13_code 16 = .ok (.iload_n 3, 1) ∧ decode prog_22_method_13_code 17 = .ok (.bipush 10, 2) ∧ decode prog_22_method_13_code 19 = .ok (.if_icmp .ge 23, 3) ∧ decode prog_22_method_13_code 22 = .ok (.iload_n 0, 1) ∧ decode prog_22_method_13_code 23 = .ok (.iload_n 2, 1) ∧ decode prog_22_method_13_code 24 = .ok (.if_icmp .le 7, 3) ∧ decode prog_22_method_13_code 27 = .ok (.iload_n 3, 1) ∧ decode prog_22_method_13_code 28 = .ok (.iload_n 1, 1) ∧ decode prog_22_method_13_code 29 = .ok (.iadd, 1) ∧ decode prog_22_method_13_code 30 = .ok (.ireturn, 1) ∧ decode prog_22_method_13_code 31 = .ok (.bipush 10, 2) := by decide +kernel
theorem e2_jInt_stringSize : decode prog_22_method_13_code 33 = .ok (.iload_n 2, 1) ∧ decode prog_22_method_13_code 34 = .ok (.imul, 1) ∧ decode prog_22_method_13_code 35 = .ok (.istore_n 2, 1) ∧ decode prog_22_method_13_code 36 = .ok (.iinc 3 1, 3) ∧ decode prog_22_method_13_code 39 = .ok (.goto (-23), 3) ∧ decode prog_22_method_13_code 42 = .ok (.bipush 10, 2) ∧ decode prog_22_method_13_code 44 = .ok (.iload_n 1, 1) ∧ decode prog_22_method_13_code 45 = .ok (.iadd, 1) ∧ decode prog_22_method_13_code 46 = .ok (.ireturn, 1) := by decide +kernel
def T_jInt_stringSize : TT := [(0, o_push (.int (iI (1))) 1), (1, o_ist 1 2), (2, o_ild 0 3), (3, o_if_lt 11 6), (6, o_push (.int (iI (0))) 7), (7, o_ist 1 8), (8, o_ild 0 9), (9, o_ineg 10), (10, o_ist 0 11), (11, o_push (.int (iI (-10))) 13), (13, o_ist 2 14), (14, o_push (.int (iI (1))) 15), (15, o_ist 3 16), (16, o_ild 3 17), (17, o_push (.int (iI (10))) 19), (19, o_icmp_ge 42 22), (22, o_ild 0 23), (23, o_ild 2 24), (24, o_icmp_le 31 27), (27, o_ild 3 28), (28, o_ild 1 29), (29, o_iadd 30), (30, o_iret), (31, o_push (.int (iI (10))) 33), (33, o_ild 2 34), (34, o_imul 35), (35, o_ist 2 36), (36, o_iinc 3 (iI (1)) 39), (39, o_goto 16), (42, o_push (.int (iI (10))) 44), (44, o_ild 1 45), (45, o_iadd 46), (46, o_iret)]
theorem k_jInt_stringSize : ∀ x ∈ T_jInt_stringSize, SO M_jInt_stringSize x.1 x.2 := by
  obtain ⟨h0, h1, h2, h3, h6, h7, h8, h9, h10, h11, h13, h14⟩ := e0_jInt_stringSize
  obtain ⟨h15, h16, h17, h19, h22, h23, h24, h27, h28, h29, h30, h31⟩ := e1_jInt_stringSize
  obtain ⟨h33, h34, h35, h36, h39, h42, h44, h45, h46⟩ := e2_jInt_stringSize
  refine ac (s_iconst (M := M_jInt_stringSize) (pc := 0) h0 rfl) ?_
  refine ac (s_istn (M := M_jInt_stringSize) (pc := 1) (k := 1) h1 (by decide)) ?_
  refine ac (s_ildn (M := M_jInt_stringSize) (pc := 2) (k := 0) h2) ?_
  refine ac (s_if_lt (M := M_jInt_stringSize) (pc := 3) h3 (by decide)) ?_
  refine ac (s_iconst (M := M_jInt_stringSize) (pc := 6) h6 rfl) ?_
  refine ac (s_istn (M := M_jInt_stringSize) (pc := 7) (k := 1) h7 (by decide)) ?_
  refine ac (s_ildn (M := M_jInt_stringSize) (pc := 8) (k := 0) h8) ?_
  refine ac (s_ineg (M := M_jInt_stringSize) (pc := 9) h9) ?_
  refine ac (s_istn (M := M_jInt_stringSize) (pc := 10) (k := 0) h10 (by decide)) ?_
  refine ac (s_bipush (M := M_jInt_stringSize) (pc := 11) h11 (by decide)) ?_
  refine ac (s_istn (M := M_jInt_stringSize) (pc := 13) (k := 2) h13 (by decide)) ?_
  refine ac (s_iconst (M := M_jInt_stringSize) (pc := 14) h14 rfl) ?_
  refine ac (s_istn (M := M_jInt_stringSize) (pc := 15) (k := 3) h15 (by decide)) ?_
  refine ac (s_ildn (M := M_jInt_stringSize) (pc := 16) (k := 3) h16) ?_
  refine ac (s_bipush (M := M_jInt_stringSize) (pc := 17) h17 (by decide)) ?_
  refine ac (s_icmp_ge (M := M_jInt_stringSize) (pc := 19) h19 (by decide)) ?_
  refine ac (s_ildn (M := M_jInt_stringSize) (pc := 22) (k := 0) h22) ?_
  refine ac (s_ildn (M := M_jInt_stringSize) (pc := 23) (k := 2) h23) ?_
  refine ac (s_icmp_le (M := M_jInt_stringSize) (pc := 24) h24 (by decide)) ?_
  refine ac (s_ildn (M := M_jInt_stringSize) (pc := 27) (k := 3) h27) ?_
  refine ac (s_ildn (M := M_jInt_stringSize) (pc := 28) (k := 1) h28) ?_
  refine ac (s_iadd (M := M_jInt_stringSize) (pc := 29) h29) ?_
  refine ac (s_iret (M := M_jInt_stringSize) (pc := 30) h30 rfl) ?_
  refine ac (s_bipush (M := M_jInt_stringSize) (pc := 31) h31 (by decide)) ?_
  refine ac (s_ildn (M := M_jInt_stringSize) (pc := 33) (k := 2) h33) ?_
  refine ac (s_imul (M := M_jInt_stringSize) (pc := 34) h34) ?_
  refine ac (s_istn (M := M_jInt_stringSize) (pc := 35) (k := 2) h35 (by decide)) ?_
  refine ac (s_iinc (M := M_jInt_stringSize) (pc := 36) h36 rfl (by decide)) ?_
  refine ac (s_goto (M := M_jInt_stringSize) (pc := 39) h39 (by decide)) ?_
  refine ac (s_bipush (M := M_jInt_stringSize) (pc := 42) h42 (by decide)) ?_
  refine ac (s_ildn (M := M_jInt_stringSize) (pc := 44) (k := 1) h44) ?_
  refine ac (s_iadd (M := M_jInt_stringSize) (pc := 45) h45) ?_
  refine ac (s_iret (M := M_jInt_stringSize) (pc := 46) h46 rfl) ?_
  exact ac_nil
theorem e0_jInt_getChars : decode prog_22_method_12_code 0 = .ok (.iload_n 1, 1) ∧ decode prog_22_method_12_code 1 = .ok (.istore 5, 2) ∧ decode prog_22_method_12_code 3 = .ok (.iload_n 0, 1) ∧ decode prog_22_method_12_code 4 = .ok (.ifCond .ge 7, 3) ∧ decode prog_22_method_12_code 7 = .ok (.iconst 1, 1) ∧ decode prog_22_method_12_code 8 = .ok (.goto 4, 3) ∧ decode prog_22_method_12_code 11 = .ok (.iconst 0, 1) ∧ decode prog_22_method_12_code 12 = .ok (.istore 6, 2) ∧ decode prog_22_method_12_code 14 = .ok (.iload 6, 2) ∧ decode prog_22_method_12_code 16 = .ok (.ifCond .ne 6, 3) ∧ decode prog_22_method_12_code 19 = .ok (.iload_n 0, 1) ∧ decode prog_22_method_12_code 20 = .ok (.ineg, 1) := by decide +kernel
theorem e1_jInt_getChars : decode prog_22_method_12_code 21 = .ok (.istore_n 0, 1) ∧ decode prog_22_method_12_code 22 = .ok (.iload_n 0, 1) ∧ decode prog_22_method_12_code 23 = .ok (.bipush (-100), 2) ∧ decode prog_22_method_12_code 25 = .ok (.if_icmp .gt 47, 3) ∧ decode prog_22_method_12_code 28 = .ok (.iload_n 0, 1) ∧ decode prog_22_method_12_code 29 = .ok (.bipush 100, 2) ∧ decode prog_22_method_12_code 31 = .ok (.idiv, 1) ∧ decode prog_22_method_12_code 32 = .ok (.istore_n 3, 1) ∧ decode prog_22_method_12_code 33 = .ok (.iload_n 3, 1) ∧ decode prog_22_method_12_code 34 = .ok (.bipush 100, 2) ∧ decode prog_22_method_12_code 36 = .ok (.imul, 1) ∧ decode prog_22_method_12_code 37 = .ok (.iload_n 0, 1) := by decide +kernel
theorem e2_jInt_getChars : decode prog_22_method_12_code 38 = .ok (.isub, 1) ∧ decode prog_22_method_12_code 39 = .ok (.istore 4, 2) ∧ decode prog_22_method_12_code 41 = .ok (.iload_n 3, 1) ∧ decode prog_22_method_12_code 42 = .ok (.istore_n 0, 1) ∧ decode prog_22_method_12_code 43 = .ok (.aload_n 2, 1) ∧ decode prog_22_method_12_code 44 = .ok (.iinc 5 (-1), 3) ∧ decode prog_22_method_12_code 47 = .ok (.iload 5, 2) ∧ decode prog_22_method_12_code 49 = .ok (.getstatic 83, 3) ∧ decode prog_22_method_12_code 52 = .ok (.iload 4, 2) ∧ decode prog_22_method_12_code 54 = .ok (.baload, 1) ∧ decode prog_22_method_12_code 55 = .ok (.bastore, 1) ∧ decode prog_22_method_12_code 56 = .ok (.aload_n 2, 1) := by decide +kernel
theorem e3_jInt_getChars : decode prog_22_method_12_code 57 = .ok (.iinc 5 (-1), 3) ∧ decode prog_22_method_12_code 60 = .ok (.iload 5, 2) ∧ decode prog_22_method_12_code 62 = .ok (.getstatic 87, 3) ∧ decode prog_22_method_12_code 65 = .ok (.iload 4, 2) ∧ decode prog_22_method_12_code 67 = .ok (.baload, 1) ∧ decode prog_22_method_12_code 68 = .ok (.bastore, 1) ∧ decode prog_22_method_12_code 69 = .ok (.goto (-47), 3) ∧ decode prog_22_method_12_code 72 = .ok (.aload_n 2, 1) ∧ decode prog_22_method_12_code 73 = .ok (.iinc 5 (-1), 3) ∧ decode prog_22_method_12_code 76 = .ok (.iload 5, 2) ∧ decode prog_22_method_12_code 78 = .ok (.getstatic 83, 3) ∧ decode prog_22_method_12_code 81 = .ok (.iload_n 0, 1) := by decide +kernel
theorem e4_jInt_getChars : decode prog_22_method_12_code 82 = .ok (.ineg, 1) ∧ decode prog_22_method_12_code 83 = .ok (.baload, 1) ∧ decode prog_22_method_12_code 84 = .ok (.bastore, 1) ∧ decode prog_22_method_12_code 85 = .ok (.iload_n 0, 1) ∧ decode prog_22_method_12_code 86 = .ok (.bipush (-9), 2) ∧ decode prog_22_method_12_code 88 = .ok (.if_icmp .ge 16, 3) ∧ decode prog_22_method_12_code 91 = .ok (.aload_n 2, 1) ∧ decode prog_22_method_12_code 92 = .ok (.iinc 5 (-1), 3) ∧ decode prog_22_method_12_code 95 = .ok (.iload 5, 2) ∧ decode prog_22_method_12_code 97 = .ok (.getstatic 87, 3) ∧ decode prog_22_method_12_code 100 = .ok (.iload_n 0, 1) ∧ decode prog_22_method_12_code 101 = .ok (.ineg, 1) := by decide +kernel
theorem e5_jInt_getChars : decode prog_22_method_12_code 102 = .ok (.baload, 1) ∧ decode prog_22_method_12_code 103 = .ok (.bastore, 1) ∧ decode prog_22_method_12_code 104 = .ok (.iload 6, 2) ∧ decode prog_22_method_12_code 106 = .ok (.ifCond .eq 12, 3) ∧ decode prog_22_method_12_code 109 = .ok (.aload_n 2, 1) ∧ decode prog_22_method_12_code 110 = .ok (.iinc 5 (-1), 3) ∧ decode prog_22_method_12_code 113 = .ok (.iload 5, 2) ∧ decode prog_22_method_12_code 115 = .ok (.bipush 45, 2) ∧ decode prog_22_method_12_code 117 = .ok (.bastore, 1) ∧ decode prog_22_method_12_code 118 = .ok (.iload 5, 2) ∧ decode prog_22_method_12_code 120 = .ok (.ireturn, 1) := by decide +kernel
def T_jInt_getChars : TT := [(0, o_ild 1 1), (1, o_ist 5 3), (3, o_ild 0 4), (4, o_if_ge 11 7), (7, o_push (.int (iI (1))) 8), (8, o_goto 12), (11, o_push (.int (iI (0))) 12), (12, o_ist 6 14), (14, o_ild 6 16), (16, o_if_ne 22 19), (19, o_ild 0 20), (20, o_ineg 21), (21, o_ist 0 22), (22, o_ild 0 23), (23, o_push (.int (iI (-100))) 25), (25, o_icmp_gt 72 28), (28, o_ild 0 29), (29, o_push (.int (iI (100))) 31), (31, o_idiv 32), (32, o_ist 3 33), (33, o_ild 3 34), (34, o_push (.int (iI (100))) 36), (36, o_imul 37), (37, o_ild 0 38), (38, o_isub 39), (39, o_ist 4 41), (41, o_ild 3 42), (42, o_ist 0 43), (43, o_ald 2 44), (44, o_iinc 5 (iI (-1)) 47), (47, o_ild 5 49), (49, o_push (.ref 3001) 52), (52, o_ild 4 54), (54, o_baldX 55), (55, o_bast 56), (56, o_ald 2 57), (57, o_iinc 5 (iI (-1)) 60), (60, o_ild 5 62), (62, o_push (.ref 3000) 65), (65, o_ild 4 67), (67, o_baldX 68), (68, o_bast 69), (69, o_goto 22), (72, o_ald 2 73), (73, o_iinc 5 (iI (-1)) 76), (76, o_ild 5 78), (78, o_push (.ref 3001) 81), (81, o_ild 0 82), (82, o_ineg 83), (83, o_baldX 84), (84, o_bast 85), (85, o_ild 0 86), (86, o_push (.int (iI (-9))) 88), (88, o_icmp_ge 104 91), (91, o_ald 2 92), (92, o_iinc 5 (iI (-1)) 95), (95, o_ild 5 97), (97, o_push (.ref 3000) 100), (100, o_ild 0 101), (101, o_ineg 102), (102, o_baldX 103), (103, o_bast 104), (104, o_ild 6 106), (106, o_if_eq 118 109), (109, o_ald 2 110), (110, o_iinc 5 (iI (-1)) 113), (113, o_ild 5 115), (115, o_push (.int (iI (45))) 117), (117, o_bast 118), (118, o_ild 5 120), (120, o_iret)]
theorem k_jInt_getChars : ∀ x ∈ T_jInt_getChars, SO M_jInt_getChars x.1 x.2 := by
  obtain ⟨h0, h1, h3, h4, h7, h8, h11, h12, h14, h16, h19, h20⟩ := e0_jInt_getChars
  obtain ⟨h21, h22, h23, h25, h28, h29, h31, h32, h33, h34, h36, h37⟩ := e1_jInt_getChars
  obtain ⟨h38, h39, h41, h42, h43, h44, h47, h49, h52, h54, h55, h56⟩ := e2_jInt_getChars
  obtain ⟨h57, h60, h62, h65, h67, h68, h69, h72, h73, h76, h78, h81⟩ := e3_jInt_getChars
  obtain ⟨h82, h83, h84, h85, h86, h88, h91, h92, h95, h97, h100, h101⟩ := e4_jInt_getChars
  obtain ⟨h102, h103, h104, h106, h109, h110, h113, h115, h117, h118, h120⟩ := e5_jInt_getChars
  refine ac (s_ildn (M := M_jInt_getChars) (pc := 0) (k := 1) h0) ?_
  refine ac (s_ist (M := M_jInt_getChars) (pc := 1) h1 (by decide)) ?_
  refine ac (s_ildn (M := M_jInt_getChars) (pc := 3) (k := 0) h3) ?_
  refine ac (s_if_ge (M := M_jInt_getChars) (pc := 4) h4 (by decide)) ?_
  refine ac (s_iconst (M := M_jInt_getChars) (pc := 7) h7 rfl) ?_
  refine ac (s_goto (M := M_jInt_getChars) (pc := 8) h8 (by decide)) ?_
  refine ac (s_iconst (M := M_jInt_getChars) (pc := 11) h11 rfl) ?_
  refine ac (s_ist (M := M_jInt_getChars) (pc := 12) h12 (by decide)) ?_
  refine ac (s_ild (M := M_jInt_getChars) (pc := 14) h14) ?_
  refine ac (s_if_ne (M := M_jInt_getChars) (pc := 16) h16 (by decide)) ?_
  refine ac (s_ildn (M := M_jInt_getChars) (pc := 19) (k := 0) h19) ?_
  refine ac (s_ineg (M := M_jInt_getChars) (pc := 20) h20) ?_
  refine ac (s_istn (M := M_jInt_getChars) (pc := 21) (k := 0) h21 (by decide)) ?_
  refine ac (s_ildn (M := M_jInt_getChars) (pc := 22) (k := 0) h22) ?_
  refine ac (s_bipush (M := M_jInt_getChars) (pc := 23) h23 (by decide)) ?_
  refine ac (s_icmp_gt (M := M_jInt_getChars) (pc := 25) h25 (by decide)) ?_
  refine ac (s_ildn (M := M_jInt_getChars) (pc := 28) (k := 0) h28) ?_
  refine ac (s_bipush (M := M_jInt_getChars) (pc := 29) h29 (by decide)) ?_
  refine ac (s_idiv (M := M_jInt_getChars) (pc := 31) h31) ?_
  refine ac (s_istn (M := M_jInt_getChars) (pc := 32) (k := 3) h32 (by decide)) ?_
  refine ac (s_ildn (M := M_jInt_getChars) (pc := 33) (k := 3) h33) ?_
  refine ac (s_bipush (M := M_jInt_getChars) (pc := 34) h34 (by decide)) ?_
  refine ac (s_imul (M := M_jInt_getChars) (pc := 36) h36) ?_
  refine ac (s_ildn (M := M_jInt_getChars) (pc := 37) (k := 0) h37) ?_
  refine ac (s_isub (M := M_jInt_getChars) (pc := 38) h38) ?_
  refine ac (s_ist (M := M_jInt_getChars) (pc := 39) h39 (by decide)) ?_
  refine ac (s_ildn (M := M_jInt_getChars) (pc := 41) (k := 3) h41) ?_
  refine ac (s_istn (M := M_jInt_getChars) (pc := 42) (k := 0) h42 (by decide)) ?_
  refine ac (s_aldn (M := M_jInt_getChars) (pc := 43) (k := 2) h43) ?_
  refine ac (s_iinc (M := M_jInt_getChars) (pc := 44) h44 rfl (by decide)) ?_
  refine ac (s_ild (M := M_jInt_getChars) (pc := 47) h47) ?_
  refine ac (s_getO (M := M_jInt_getChars) (pc := 49) h49 wd1058) ?_
  refine ac (s_ild (M := M_jInt_getChars) (pc := 52) h52) ?_
  refine ac (s_baldX (M := M_jInt_getChars) (pc := 54) h54) ?_
  refine ac (s_bast (M := M_jInt_getChars) (pc := 55) h55) ?_
  refine ac (s_aldn (M := M_jInt_getChars) (pc := 56) (k := 2) h56) ?_
  refine ac (s_iinc (M := M_jInt_getChars) (pc := 57) h57 rfl (by decide)) ?_
  refine ac (s_ild (M := M_jInt_getChars) (pc := 60) h60) ?_
  refine ac (s_getT (M := M_jInt_getChars) (pc := 62) h62 wd1060) ?_
  refine ac (s_ild (M := M_jInt_getChars) (pc := 65) h65) ?_
  refine ac (s_baldX (M := M_jInt_getChars) (pc := 67) h67) ?_
  refine ac (s_bast (M := M_jInt_getChars) (pc := 68) h68) ?_
  refine ac (s_goto (M := M_jInt_getChars) (pc := 69) h69 (by decide)) ?_
  refine ac (s_aldn (M := M_jInt_getChars) (pc := 72) (k := 2) h72) ?_
  refine ac (s_iinc (M := M_jInt_getChars) (pc := 73) h73 rfl (by decide)) ?_
  refine ac (s_ild (M := M_jInt_getChars) (pc := 76) h76) ?_
  refine ac (s_getO (M := M_jInt_getChars) (pc := 78) h78 wd1058) ?_
  refine ac (s_ildn (M := M_jInt_getChars) (pc := 81) (k := 0) h81) ?_
  refine ac (s_ineg (M := M_jInt_getChars) (pc := 82) h82) ?_
  refine ac (s_baldX (M := M_jInt_getChars) (pc := 83) h83) ?_
  refine ac (s_bast (M := M_jInt_getChars) (pc := 84) h84) ?_
  refine ac (s_ildn (M := M_jInt_getChars) (pc := 85) (k := 0) h85) ?_
  refine ac (s_bipush (M := M_jInt_getChars) (pc := 86) h86 (by decide)) ?_
  refine ac (s_icmp_ge (M := M_jInt_getChars) (pc := 88) h88 (by decide)) ?_
  refine ac (s_aldn (M := M_jInt_getChars) (pc := 91) (k := 2) h91) ?_
  refine ac (s_iinc (M := M_jInt_getChars) (pc := 92) h92 rfl (by decide)) ?_
  refine ac (s_ild (M := M_jInt_getChars) (pc := 95) h95) ?_
  refine ac (s_getT (M := M_jInt_getChars) (pc := 97) h97 wd1060) ?_
  refine ac (s_ildn (M := M_jInt_getChars) (pc := 100) (k := 0) h100) ?_
  refine ac (s_ineg (M := M_jInt_getChars) (pc := 101) h101) ?_
  refine ac (s_baldX (M := M_jInt_getChars) (pc := 102) h102) ?_
  refine ac (s_bast (M := M_jInt_getChars) (pc := 103) h103) ?_
  refine ac (s_ild (M := M_jInt_getChars) (pc := 104) h104) ?_
  refine ac (s_if_eq (M := M_jInt_getChars) (pc := 106) h106 (by decide)) ?_
  refine ac (s_aldn (M := M_jInt_getChars) (pc := 109) (k := 2) h109) ?_
  refine ac (s_iinc (M := M_jInt_getChars) (pc := 110) h110 rfl (by decide)) ?_
  refine ac (s_ild (M := M_jInt_getChars) (pc := 113) h113) ?_
  refine ac (s_bipush (M := M_jInt_getChars) (pc := 115) h115 (by decide)) ?_
  refine ac (s_bast (M := M_jInt_getChars) (pc := 117) h117) ?_
  refine ac (s_ild (M := M_jInt_getChars) (pc := 118) h118) ?_
  refine ac (s_iret (M := M_jInt_getChars) (pc := 120) h120 rfl) ?_
  exact ac_nil
theorem e0_jSB_toString : decode prog_28_method_42_code 0 = .ok (.new 18, 3) ∧ decode prog_28_method_42_code 3 = .ok (.dup, 1) ∧ decode prog_28_method_42_code 4 = .ok (.aload_n 0, 1) ∧ decode prog_28_method_42_code 5 = .ok (.invokespecial 137, 3) ∧ decode prog_28_method_42_code 8 = .ok (.areturn, 1) := by decide +kernel
def T_jSB_toString : TT := [(0, o_new 8 4 [.null, .int (iI 0), .int (iI 0), .int (iI 0)] 3), (3, o_dup 4), (4, o_ald 0 5), (5, o_callI M_jStr_init_LStringBuilder 2 1 46 8), (8, o_aret)]
theorem k_jSB_toString : ∀ x ∈ T_jSB_toString, SO M_jSB_toString x.1 x.2 := by
  obtain ⟨h0, h3, h4, h5, h8⟩ := e0_jSB_toString
  refine ac (s_new (M := M_jSB_toString) (pc := 0) (T := TJ0) (N := 4) (fs := [.null, .int (iI 0), .int (iI 0), .int (iI 0)]) h0 rfl in_J0 tyJ0_ok wd1077 wd1078 wd31 (fun j hj => match j, hj with | 0, _ => rfl | 1, _ => rfl | 2, _ => rfl | 3, _ => rfl | j + 4, h => absurd h (by omega)) (fun _ => rfl)) ?_
  refine ac (s_dup (M := M_jSB_toString) (pc := 3) h3) ?_
  refine ac (s_aldn (M := M_jSB_toString) (pc := 4) (k := 0) h4) ?_
  refine ac (s_callI (M := M_jSB_toString) (pc := 5) (mc1 := 1) (ms1 := 46) (tz_jSB rfl) h5 q_jStr_init_LStringBuilder rfl rfl wd1079 wd1080) ?_
  refine ac (s_aret (M := M_jSB_toString) (pc := 8) h8 rfl (Or.inl ⟨_, rfl⟩)) ?_
  exact ac_nil
theorem e0_jStr_init_LStringBuilder : decode prog_27_method_53_code 0 = .ok (.aload_n 0, 1) ∧ decode prog_27_method_53_code 1 = .ok (.aload_n 1, 1) ∧ decode prog_27_method_53_code 2 = .ok (.aconst_null, 1) ∧ decode prog_27_method_53_code 3 = .ok (.invokespecial 489, 3) ∧ decode prog_27_method_53_code 6 = .ok (.return_, 1) := by decide +kernel
def T_jStr_init_LStringBuilder : TT := [(0, o_ald 0 1), (1, o_ald 1 2), (2, o_push .null 3), (3, o_callI M_jStr_init_LAbstractStringBuilderLVoid 3 1 46 6), (6, o_vret)]
theorem k_jStr_init_LStringBuilder : ∀ x ∈ T_jStr_init_LStringBuilder, SO M_jStr_init_LStringBuilder x.1 x.2 := by
  obtain ⟨h0, h1, h2, h3, h6⟩ := e0_jStr_init_LStringBuilder
  refine ac (s_aldn (M := M_jStr_init_LStringBuilder) (pc := 0) (k := 0) h0) ?_
  refine ac (s_aldn (M := M_jStr_init_LStringBuilder) (pc := 1) (k := 1) h1) ?_
  refine ac (s_null (M := M_jStr_init_LStringBuilder) (pc := 2) h2) ?_
  refine ac (s_callI (M := M_jStr_init_LStringBuilder) (pc := 3) (mc1 := 1) (ms1 := 46) (tz_jStr rfl) h3 q_jStr_init_LAbstractStringBuilderLVoid rfl rfl wd1082 wd1083) ?_
  refine ac (s_vret (M := M_jStr_init_LStringBuilder) (pc := 6) h6 rfl) ?_
  exact ac_nil
theorem e0_jStr_init_LAbstractStringBuilderLVoid : decode prog_27_method_150_code 0 = .ok (.aload_n 0, 1) ∧ decode prog_27_method_150_code 1 = .ok (.invokespecial 1, 3) ∧ decode prog_27_method_150_code 4 = .ok (.aload_n 1, 1) ∧ decode prog_27_method_150_code 5 = .ok (.invokevirtual 552, 3) ∧ decode prog_27_method_150_code 8 = .ok (.astore_n 3, 1) ∧ decode prog_27_method_150_code 9 = .ok (.aload_n 1, 1) ∧ decode prog_27_method_150_code 10 = .ok (.invokevirtual 549, 3) ∧ decode prog_27_method_150_code 13 = .ok (.istore 4, 2) ∧ decode prog_27_method_150_code 15 = .ok (.aload_n 1, 1) ∧ decode prog_27_method_150_code 16 = .ok (.invokevirtual 1047, 3) ∧ decode prog_27_method_150_code 19 = .ok (.ifCond .eq 22, 3) ∧ decode prog_27_method_150_code 22 = .ok (.aload_n 0, 1) := by decide +kernel
theorem e1_jStr_init_LAbstractStringBuilderLVoid : decode prog_27_method_150_code 23 = .ok (.iconst 0, 1) ∧ decode prog_27_method_150_code 24 = .ok (.putfield 15, 3) ∧ decode prog_27_method_150_code 27 = .ok (.aload_n 0, 1) ∧ decode prog_27_method_150_code 28 = .ok (.aload_n 3, 1) ∧ decode prog_27_method_150_code 29 = .ok (.iconst 0, 1) ∧ decode prog_27_method_150_code 30 = .ok (.iload 4, 2) ∧ decode prog_27_method_150_code 32 = .ok (.invokestatic 54, 3) ∧ decode prog_27_method_150_code 35 = .ok (.putfield 9, 3) ∧ decode prog_27_method_150_code 38 = .ok (.goto 59, 3) ∧ decode prog_27_method_150_code 41 = .ok (.getstatic 38, 3) ∧ decode prog_27_method_150_code 44 = .ok (.ifCond .eq 35, 3) ∧ decode prog_27_method_150_code 47 = .ok (.aload_n 1, 1) := by decide +kernel
theorem e2_jStr_init_LAbstractStringBuilderLVoid : decode prog_27_method_150_code 48 = .ok (.getfield 1048, 3) ∧ decode prog_27_method_150_code 51 = .ok (.ifCond .eq 28, 3) ∧ decode prog_27_method_150_code 54 = .ok (.aload_n 0, 1) ∧ decode prog_27_method_150_code 55 = .ok (.aload_n 3, 1) ∧ decode prog_27_method_150_code 56 = .ok (.iconst 0, 1) ∧ decode prog_27_method_150_code 57 = .ok (.iload 4, 2) ∧ decode prog_27_method_150_code 59 = .ok (.invokestatic 1051, 3) ∧ decode prog_27_method_150_code 62 = .ok (.putfield 9, 3) ∧ decode prog_27_method_150_code 65 = .ok (.aload_n 0, 1) ∧ decode prog_27_method_150_code 66 = .ok (.aload_n 0, 1) ∧ decode prog_27_method_150_code 67 = .ok (.getfield 9, 3) ∧ decode prog_27_method_150_code 70 = .ok (.iload 4, 2) := by decide +kernel
theorem e3_jStr_init_LAbstractStringBuilderLVoid : decode prog_27_method_150_code 72 = .ok (.invokestatic 47, 3) ∧ decode prog_27_method_150_code 75 = .ok (.putfield 15, 3) ∧ decode prog_27_method_150_code 78 = .ok (.return_, 1) ∧ decode prog_27_method_150_code 79 = .ok (.aload_n 0, 1) ∧ decode prog_27_method_150_code 80 = .ok (.iconst 1, 1) ∧ decode prog_27_method_150_code 81 = .ok (.putfield 15, 3) ∧ decode prog_27_method_150_code 84 = .ok (.aload_n 0, 1) ∧ decode prog_27_method_150_code 85 = .ok (.aload_n 3, 1) ∧ decode prog_27_method_150_code 86 = .ok (.iconst 0, 1) ∧ decode prog_27_method_150_code 87 = .ok (.iload 4, 2) ∧ decode prog_27_method_150_code 89 = .ok (.iconst 1, 1) ∧ decode prog_27_method_150_code 90 = .ok (.ishl, 1) := by decide +kernel
theorem e4_jStr_init_LAbstractStringBuilderLVoid : decode prog_27_method_150_code 91 = .ok (.invokestatic 54, 3) ∧ decode prog_27_method_150_code 94 = .ok (.putfield 9, 3) ∧ decode prog_27_method_150_code 97 = .ok (.return_, 1) := by decide +kernel
def T_jStr_init_LAbstractStringBuilderLVoid : TT := [(0, o_ald 0 1), (1, o_oinit 4), (4, o_ald 1 5), (5, o_callU M_jASB_getValue 1 0 0 8), (8, o_ast 3 9), (9, o_ald 1 10), (10, o_callU M_jSB_length 1 0 0 13), (13, o_ist 4 15), (15, o_ald 1 16), (16, o_callU M_jASB_isLatin1 1 0 0 19), (19, o_if_eq 41 22), (22, o_ald 0 23), (23, o_push (.int (iI (0))) 24), (24, o_putb 8 1 27), (27, o_ald 0 28), (28, o_ald 3 29), (29, o_push (.int (iI (0))) 30), (30, o_ild 4 32), (32, o_callB M_jArr_copyOfRange 3 1 46 35), (35, o_putr 8 0 38), (38, o_goto 97), (41, o_push (.int (iI 1)) 44), (44, o_if_eq 79 47), (47, o_ald 1 48), (48, o_get 9 2 51), (51, o_if_eq 79 54), (54, o_ald 0 55), (55, o_ald 3 56), (56, o_push (.int (iI (0))) 57), (57, o_ild 4 59), (59, o_call M_jU16_compress_ABII 3 62), (62, o_putr 8 0 65), (65, o_ald 0 66), (66, o_ald 0 67), (67, o_getSv 70), (70, o_ild 4 72), (72, o_call M_jU16_coderFromArrayLen 2 75), (75, o_putb 8 1 78), (78, o_vret), (79, o_ald 0 80), (80, o_push (.int (iI (1))) 81), (81, o_putb 8 1 84), (84, o_ald 0 85), (85, o_ald 3 86), (86, o_push (.int (iI (0))) 87), (87, o_ild 4 89), (89, o_push (.int (iI (1))) 90), (90, o_ishl 91), (91, o_callB M_jArr_copyOfRange 3 1 46 94), (94, o_putr 8 0 97), (97, o_vret)]
theorem k_jStr_init_LAbstractStringBuilderLVoid : ∀ x ∈ T_jStr_init_LAbstractStringBuilderLVoid, SO M_jStr_init_LAbstractStringBuilderLVoid x.1 x.2 := by
  obtain ⟨h0, h1, h4, h5, h8, h9, h10, h13, h15, h16, h19, h22⟩ := e0_jStr_init_LAbstractStringBuilderLVoid
  obtain ⟨h23, h24, h27, h28, h29, h30, h32, h35, h38, h41, h44, h47⟩ := e1_jStr_init_LAbstractStringBuilderLVoid
  obtain ⟨h48, h51, h54, h55, h56, h57, h59, h62, h65, h66, h67, h70⟩ := e2_jStr_init_LAbstractStringBuilderLVoid
  obtain ⟨h72, h75, h78, h79, h80, h81, h84, h85, h86, h87, h89, h90⟩ := e3_jStr_init_LAbstractStringBuilderLVoid
  obtain ⟨h91, h94, h97⟩ := e4_jStr_init_LAbstractStringBuilderLVoid
  refine ac (s_aldn (M := M_jStr_init_LAbstractStringBuilderLVoid) (pc := 0) (k := 0) h0) ?_
  refine ac (s_oinit (M := M_jStr_init_LAbstractStringBuilderLVoid) (pc := 1) h1 wd1085 wd56 wd57) ?_
  refine ac (s_aldn (M := M_jStr_init_LAbstractStringBuilderLVoid) (pc := 4) (k := 1) h4) ?_
  refine ac (s_callU (M := M_jStr_init_LAbstractStringBuilderLVoid) (pc := 5) (mc1 := 0) (ms1 := 0) (x := M_jASB_getValue.1) (tz_jStr rfl) h5 q_jASB_getValue rfl (by decide +kernel) wd1086 wd1088 wd1089 wd1087) ?_
  refine ac (s_astn (M := M_jStr_init_LAbstractStringBuilderLVoid) (pc := 8) (k := 3) h8 (by decide)) ?_
  refine ac (s_aldn (M := M_jStr_init_LAbstractStringBuilderLVoid) (pc := 9) (k := 1) h9) ?_
  refine ac (s_callO (M := M_jStr_init_LAbstractStringBuilderLVoid) (pc := 10) (mc1 := 0) (ms1 := 0) (x := ⟨"java/lang/AbstractStringBuilder", "length", "()I"⟩) (tz_jStr rfl) h10 q_jSB_length (by decide +kernel) (by decide) wd1091 wd1093 wd1092 wd1094 wd1095 wd1098) ?_
  refine ac (s_ist (M := M_jStr_init_LAbstractStringBuilderLVoid) (pc := 13) h13 (by decide)) ?_
  refine ac (s_aldn (M := M_jStr_init_LAbstractStringBuilderLVoid) (pc := 15) (k := 1) h15) ?_
  refine ac (s_callU (M := M_jStr_init_LAbstractStringBuilderLVoid) (pc := 16) (mc1 := 0) (ms1 := 0) (x := M_jASB_isLatin1.1) (tz_jStr rfl) h16 q_jASB_isLatin1 rfl (by decide +kernel) wd1099 wd990 wd991 wd989) ?_
  refine ac (s_if_eq (M := M_jStr_init_LAbstractStringBuilderLVoid) (pc := 19) h19 (by decide)) ?_
  refine ac (s_aldn (M := M_jStr_init_LAbstractStringBuilderLVoid) (pc := 22) (k := 0) h22) ?_
  refine ac (s_iconst (M := M_jStr_init_LAbstractStringBuilderLVoid) (pc := 23) h23 rfl) ?_
  refine ac (s_putb (M := M_jStr_init_LAbstractStringBuilderLVoid) (pc := 24) (T := TJ0) (N := 4) (ty0 := tyJ0) h24 ⟨rfl, in_J0, by decide, wd1120, tyJ0_ok, nmJ0, (Or.inr ⟨rfl, rfl, rfl⟩)⟩ rfl) ?_
  refine ac (s_aldn (M := M_jStr_init_LAbstractStringBuilderLVoid) (pc := 27) (k := 0) h27) ?_
  refine ac (s_aldn (M := M_jStr_init_LAbstractStringBuilderLVoid) (pc := 28) (k := 3) h28) ?_
  refine ac (s_iconst (M := M_jStr_init_LAbstractStringBuilderLVoid) (pc := 29) h29 rfl) ?_
  refine ac (s_ild (M := M_jStr_init_LAbstractStringBuilderLVoid) (pc := 30) h30) ?_
  refine ac (s_callSB (M := M_jStr_init_LAbstractStringBuilderLVoid) (pc := 32) (mc1 := 1) (ms1 := 46) (tz_jStr rfl) h32 q_jArr_copyOfRange wd1100 wd1101) ?_
  refine ac (s_putr (M := M_jStr_init_LAbstractStringBuilderLVoid) (pc := 35) (T := TJ0) (N := 4) (ty0 := tyJ0) h35 ⟨rfl, in_J0, by decide, wd1119, tyJ0_ok, nmJ0, (Or.inr ⟨rfl, rfl, rfl⟩)⟩ (Or.inr ⟨_, rfl⟩)) ?_
  refine ac (s_goto (M := M_jStr_init_LAbstractStringBuilderLVoid) (pc := 38) h38 (by decide)) ?_
  refine ac (s_getC (M := M_jStr_init_LAbstractStringBuilderLVoid) (pc := 41) h41 wd679) ?_
  refine ac (s_if_eq (M := M_jStr_init_LAbstractStringBuilderLVoid) (pc := 44) h44 (by decide)) ?_
  refine ac (s_aldn (M := M_jStr_init_LAbstractStringBuilderLVoid) (pc := 47) (k := 1) h47) ?_
  refine ac (s_get (M := M_jStr_init_LAbstractStringBuilderLVoid) (pc := 48) (T := TJ4) (N := 4) h48 rfl in_J4 (by decide) wd239) ?_
  refine ac (s_if_eq (M := M_jStr_init_LAbstractStringBuilderLVoid) (pc := 51) h51 (by decide)) ?_
  refine ac (s_aldn (M := M_jStr_init_LAbstractStringBuilderLVoid) (pc := 54) (k := 0) h54) ?_
  refine ac (s_aldn (M := M_jStr_init_LAbstractStringBuilderLVoid) (pc := 55) (k := 3) h55) ?_
  refine ac (s_iconst (M := M_jStr_init_LAbstractStringBuilderLVoid) (pc := 56) h56 rfl) ?_
  refine ac (s_ild (M := M_jStr_init_LAbstractStringBuilderLVoid) (pc := 57) h57) ?_
  refine ac (s_callS (M := M_jStr_init_LAbstractStringBuilderLVoid) (pc := 59) (tz_jStr rfl) h59 q_jU16_compress_ABII wd1109 wd1110) ?_
  refine ac (s_putr (M := M_jStr_init_LAbstractStringBuilderLVoid) (pc := 62) (T := TJ0) (N := 4) (ty0 := tyJ0) h62 ⟨rfl, in_J0, by decide, wd1119, tyJ0_ok, nmJ0, (Or.inr ⟨rfl, rfl, rfl⟩)⟩ (Or.inr ⟨_, rfl⟩)) ?_
  refine ac (s_aldn (M := M_jStr_init_LAbstractStringBuilderLVoid) (pc := 65) (k := 0) h65) ?_
  refine ac (s_aldn (M := M_jStr_init_LAbstractStringBuilderLVoid) (pc := 66) (k := 0) h66) ?_
  refine ac (s_getSv (M := M_jStr_init_LAbstractStringBuilderLVoid) (pc := 67) h67 wd1119) ?_
  refine ac (s_ild (M := M_jStr_init_LAbstractStringBuilderLVoid) (pc := 70) h70) ?_
  refine ac (s_callS (M := M_jStr_init_LAbstractStringBuilderLVoid) (pc := 72) (tz_jStr rfl) h72 q_jU16_coderFromArrayLen wd1116 wd1117) ?_
  refine ac (s_putb (M := M_jStr_init_LAbstractStringBuilderLVoid) (pc := 75) (T := TJ0) (N := 4) (ty0 := tyJ0) h75 ⟨rfl, in_J0, by decide, wd1120, tyJ0_ok, nmJ0, (Or.inr ⟨rfl, rfl, rfl⟩)⟩ rfl) ?_
  refine ac (s_vret (M := M_jStr_init_LAbstractStringBuilderLVoid) (pc := 78) h78 rfl) ?_
  refine ac (s_aldn (M := M_jStr_init_LAbstractStringBuilderLVoid) (pc := 79) (k := 0) h79) ?_
  refine ac (s_iconst (M := M_jStr_init_LAbstractStringBuilderLVoid) (pc := 80) h80 rfl) ?_
  refine ac (s_putb (M := M_jStr_init_LAbstractStringBuilderLVoid) (pc := 81) (T := TJ0) (N := 4) (ty0 := tyJ0) h81 ⟨rfl, in_J0, by decide, wd1120, tyJ0_ok, nmJ0, (Or.inr ⟨rfl, rfl, rfl⟩)⟩ rfl) ?_
  refine ac (s_aldn (M := M_jStr_init_LAbstractStringBuilderLVoid) (pc := 84) (k := 0) h84) ?_
  refine ac (s_aldn (M := M_jStr_init_LAbstractStringBuilderLVoid) (pc := 85) (k := 3) h85) ?_
  refine ac (s_iconst (M := M_jStr_init_LAbstractStringBuilderLVoid) (pc := 86) h86 rfl) ?_
  refine ac (s_ild (M := M_jStr_init_LAbstractStringBuilderLVoid) (pc := 87) h87) ?_
  refine ac (s_iconst (M := M_jStr_init_LAbstractStringBuilderLVoid) (pc := 89) h89 rfl) ?_
  refine ac (s_ishl (M := M_jStr_init_LAbstractStringBuilderLVoid) (pc := 90) h90) ?_
  refine ac (s_callSB (M := M_jStr_init_LAbstractStringBuilderLVoid) (pc := 91) (mc1 := 1) (ms1 := 46) (tz_jStr rfl) h91 q_jArr_copyOfRange wd1100 wd1101) ?_
  refine ac (s_putr (M := M_jStr_init_LAbstractStringBuilderLVoid) (pc := 94) (T := TJ0) (N := 4) (ty0 := tyJ0) h94 ⟨rfl, in_J0, by decide, wd1119, tyJ0_ok, nmJ0, (Or.inr ⟨rfl, rfl, rfl⟩)⟩ (Or.inr ⟨_, rfl⟩)) ?_
  refine ac (s_vret (M := M_jStr_init_LAbstractStringBuilderLVoid) (pc := 97) h97 rfl) ?_
  exact ac_nil
theorem e0_jASB_getValue : decode prog_12_method_64_code 0 = .ok (.aload_n 0, 1) ∧ decode prog_12_method_64_code 1 = .ok (.getfield 15, 3) ∧ decode prog_12_method_64_code 4 = .ok (.areturn, 1) := by decide +kernel
def T_jASB_getValue : TT := [(0, o_ald 0 1), (1, o_get 9 0 4), (4, o_aret)]
theorem k_jASB_getValue : ∀ x ∈ T_jASB_getValue, SO M_jASB_getValue x.1 x.2 := by
  obtain ⟨h0, h1, h4⟩ := e0_jASB_getValue
  refine ac (s_aldn (M := M_jASB_getValue) (pc := 0) (k := 0) h0) ?_
  refine ac (s_get (M := M_jASB_getValue) (pc := 1) (T := TJ4) (N := 4) h1 rfl in_J4 (by decide) wd237) ?_
  refine ac (s_aret (M := M_jASB_getValue) (pc := 4) h4 rfl (Or.inr ⟨_, rfl⟩)) ?_
  exact ac_nil
theorem e0_jSB_length : decode prog_28_method_93_code 0 = .ok (.aload_n 0, 1) ∧ decode prog_28_method_93_code 1 = .ok (.invokespecial 343, 3) ∧ decode prog_28_method_93_code 4 = .ok (.ireturn, 1) := by decide +kernel
def T_jSB_length : TT := [(0, o_ald 0 1), (1, o_callU M_jASB_length 1 0 0 4), (4, o_iret)]
theorem k_jSB_length : ∀ x ∈ T_jSB_length, SO M_jSB_length x.1 x.2 := by
  obtain ⟨h0, h1, h4⟩ := e0_jSB_length
  refine ac (s_aldn (M := M_jSB_length) (pc := 0) (k := 0) h0) ?_
  refine ac (s_callSU (M := M_jSB_length) (pc := 1) (mc1 := 0) (ms1 := 0) (tz_jSB rfl) h1 q_jASB_length (by decide) wd1097 wd1093 wd249 wd1092) ?_
  refine ac (s_iret (M := M_jSB_length) (pc := 4) h4 rfl) ?_
  exact ac_nil
theorem e0_jASB_length : decode prog_12_method_6_code 0 = .ok (.aload_n 0, 1) ∧ decode prog_12_method_6_code 1 = .ok (.getfield 79, 3) ∧ decode prog_12_method_6_code 4 = .ok (.ireturn, 1) := by decide +kernel
def T_jASB_length : TT := [(0, o_ald 0 1), (1, o_get 9 3 4), (4, o_iret)]
theorem k_jASB_length : ∀ x ∈ T_jASB_length, SO M_jASB_length x.1 x.2 := by
  obtain ⟨h0, h1, h4⟩ := e0_jASB_length
  refine ac (s_aldn (M := M_jASB_length) (pc := 0) (k := 0) h0) ?_
  refine ac (s_get (M := M_jASB_length) (pc := 1) (T := TJ4) (N := 4) h1 rfl in_J4 (by decide) wd240) ?_
  refine ac (s_iret (M := M_jASB_length) (pc := 4) h4 rfl) ?_
  exact ac_nil
theorem e0_jArr_copyOfRange : decode prog_35_method_132_code 0 = .ok (.iload_n 1, 1) ∧ decode prog_35_method_132_code 1 = .ok (.ifCond .ne 9, 3) ∧ decode prog_35_method_132_code 4 = .ok (.iload_n 2, 1) ∧ decode prog_35_method_132_code 5 = .ok (.aload_n 0, 1) ∧ decode prog_35_method_132_code 6 = .ok (.arraylength, 1) ∧ decode prog_35_method_132_code 7 = .ok (.if_icmp .eq 10, 3) ∧ decode prog_35_method_132_code 10 = .ok (.aload_n 0, 1) ∧ decode prog_35_method_132_code 11 = .ok (.iload_n 1, 1) ∧ decode prog_35_method_132_code 12 = .ok (.iload_n 2, 1) ∧ decode prog_35_method_132_code 13 = .ok (.invokestatic 339, 3) ∧ decode prog_35_method_132_code 16 = .ok (.areturn, 1) ∧ decode prog_35_method_132_code 17 = .ok (.aload_n 0, 1) := by decide +kernel
theorem e1_jArr_copyOfRange : decode prog_35_method_132_code 18 = .ok (.invokevirtual 310, 3) ∧ decode prog_35_method_132_code 21 = .ok (.checkcast 311, 3) ∧ decode prog_35_method_132_code 24 = .ok (.areturn, 1) := by decide +kernel
def T_jArr_copyOfRange : TT := [(0, o_ild 1 1), (1, o_if_ne 10 4), (4, o_ild 2 5), (5, o_ald 0 6), (6, o_alenX 7), (7, o_icmp_eq 17 10), (10, o_ald 0 11), (11, o_ild 1 12), (12, o_ild 2 13), (13, o_callB M_jArr_copyOfRangeByte 3 1 46 16), (16, o_aret), (17, o_ald 0 18), (24, o_aret)]
theorem k_jArr_copyOfRange : ∀ x ∈ T_jArr_copyOfRange, SO M_jArr_copyOfRange x.1 x.2 := by
  obtain ⟨h0, h1, h4, h5, h6, h7, h10, h11, h12, h13, h16, h17⟩ := e0_jArr_copyOfRange
  obtain ⟨h18, h21, h24⟩ := e1_jArr_copyOfRange
  refine ac (s_ildn (M := M_jArr_copyOfRange) (pc := 0) (k := 1) h0) ?_
  refine ac (s_if_ne (M := M_jArr_copyOfRange) (pc := 1) h1 (by decide)) ?_
  refine ac (s_ildn (M := M_jArr_copyOfRange) (pc := 4) (k := 2) h4) ?_
  refine ac (s_aldn (M := M_jArr_copyOfRange) (pc := 5) (k := 0) h5) ?_
  refine ac (s_alenX (M := M_jArr_copyOfRange) (pc := 6) h6) ?_
  refine ac (s_icmp_eq (M := M_jArr_copyOfRange) (pc := 7) h7 (by decide)) ?_
  refine ac (s_aldn (M := M_jArr_copyOfRange) (pc := 10) (k := 0) h10) ?_
  refine ac (s_ildn (M := M_jArr_copyOfRange) (pc := 11) (k := 1) h11) ?_
  refine ac (s_ildn (M := M_jArr_copyOfRange) (pc := 12) (k := 2) h12) ?_
  refine ac (s_callSB (M := M_jArr_copyOfRange) (pc := 13) (mc1 := 1) (ms1 := 46) (tz_jArr rfl) h13 q_jArr_copyOfRangeByte wd1103 wd1104) ?_
  refine ac (s_aret (M := M_jArr_copyOfRange) (pc := 16) h16 rfl (Or.inr ⟨_, rfl⟩)) ?_
  refine ac (s_aldn (M := M_jArr_copyOfRange) (pc := 17) (k := 0) h17) ?_
  refine ac (s_aret (M := M_jArr_copyOfRange) (pc := 24) h24 rfl (Or.inr ⟨_, rfl⟩)) ?_
  exact ac_nil
theorem e0_jArr_copyOfRangeByte : decode prog_35_method_133_code 0 = .ok (.iload_n 1, 1) ∧ decode prog_35_method_133_code 1 = .ok (.iload_n 2, 1) ∧ decode prog_35_method_133_code 2 = .ok (.invokestatic 343, 3) ∧ decode prog_35_method_133_code 5 = .ok (.iload_n 2, 1) ∧ decode prog_35_method_133_code 6 = .ok (.iload_n 1, 1) ∧ decode prog_35_method_133_code 7 = .ok (.isub, 1) ∧ decode prog_35_method_133_code 8 = .ok (.istore_n 3, 1) ∧ decode prog_35_method_133_code 9 = .ok (.iload_n 3, 1) ∧ decode prog_35_method_133_code 10 = .ok (.newarray .byte, 2) ∧ decode prog_35_method_133_code 12 = .ok (.astore 4, 2) ∧ decode prog_35_method_133_code 14 = .ok (.aload_n 0, 1) ∧ decode prog_35_method_133_code 15 = .ok (.iload_n 1, 1) := by decide +kernel
theorem e1_jArr_copyOfRangeByte : decode prog_35_method_133_code 16 = .ok (.aload 4, 2) ∧ decode prog_35_method_133_code 18 = .ok (.iconst 0, 1) ∧ decode prog_35_method_133_code 19 = .ok (.aload_n 0, 1) ∧ decode prog_35_method_133_code 20 = .ok (.arraylength, 1) ∧ decode prog_35_method_133_code 21 = .ok (.iload_n 1, 1) ∧ decode prog_35_method_133_code 22 = .ok (.isub, 1) ∧ decode prog_35_method_133_code 23 = .ok (.iload_n 3, 1) ∧ decode prog_35_method_133_code 24 = .ok (.invokestatic 304, 3) ∧ decode prog_35_method_133_code 27 = .ok (.invokestatic 150, 3) ∧ decode prog_35_method_133_code 30 = .ok (.aload 4, 2) ∧ decode prog_35_method_133_code 32 = .ok (.areturn, 1) := by decide +kernel
def T_jArr_copyOfRangeByte : TT := [(0, o_ild 1 1), (1, o_ild 2 2), (2, o_call M_jArr_checkLength 2 5), (5, o_ild 2 6), (6, o_ild 1 7), (7, o_isub 8), (8, o_ist 3 9), (9, o_ild 3 10), (10, o_newai 0 12), (12, o_ast 4 14), (14, o_ald 0 15), (15, o_ild 1 16), (16, o_ald 4 18), (18, o_push (.int (iI (0))) 19), (19, o_ald 0 20), (20, o_alenX 21), (21, o_ild 1 22), (22, o_isub 23), (23, o_ild 3 24), (24, o_call M_jMath_min 2 27), (27, o_copy 30), (30, o_ald 4 32), (32, o_aret)]
theorem k_jArr_copyOfRangeByte : ∀ x ∈ T_jArr_copyOfRangeByte, SO M_jArr_copyOfRangeByte x.1 x.2 := by
  obtain ⟨h0, h1, h2, h5, h6, h7, h8, h9, h10, h12, h14, h15⟩ := e0_jArr_copyOfRangeByte
  obtain ⟨h16, h18, h19, h20, h21, h22, h23, h24, h27, h30, h32⟩ := e1_jArr_copyOfRangeByte
  refine ac (s_ildn (M := M_jArr_copyOfRangeByte) (pc := 0) (k := 1) h0) ?_
  refine ac (s_ildn (M := M_jArr_copyOfRangeByte) (pc := 1) (k := 2) h1) ?_
  refine ac (s_callS (M := M_jArr_copyOfRangeByte) (pc := 2) (tz_jArr rfl) h2 q_jArr_checkLength wd1106 wd1107) ?_
  refine ac (s_ildn (M := M_jArr_copyOfRangeByte) (pc := 5) (k := 2) h5) ?_
  refine ac (s_ildn (M := M_jArr_copyOfRangeByte) (pc := 6) (k := 1) h6) ?_
  refine ac (s_isub (M := M_jArr_copyOfRangeByte) (pc := 7) h7) ?_
  refine ac (s_istn (M := M_jArr_copyOfRangeByte) (pc := 8) (k := 3) h8 (by decide)) ?_
  refine ac (s_ildn (M := M_jArr_copyOfRangeByte) (pc := 9) (k := 3) h9) ?_
  refine ac (s_newai (M := M_jArr_copyOfRangeByte) (pc := 10) (t := 0) h10 rfl (fun _ => rfl) wd96 (by decide) (fun _ _ => rfl)) ?_
  refine ac (s_ast (M := M_jArr_copyOfRangeByte) (pc := 12) h12 (by decide)) ?_
  refine ac (s_aldn (M := M_jArr_copyOfRangeByte) (pc := 14) (k := 0) h14) ?_
  refine ac (s_ildn (M := M_jArr_copyOfRangeByte) (pc := 15) (k := 1) h15) ?_
  refine ac (s_ald (M := M_jArr_copyOfRangeByte) (pc := 16) h16) ?_
  refine ac (s_iconst (M := M_jArr_copyOfRangeByte) (pc := 18) h18 rfl) ?_
  refine ac (s_aldn (M := M_jArr_copyOfRangeByte) (pc := 19) (k := 0) h19) ?_
  refine ac (s_alenX (M := M_jArr_copyOfRangeByte) (pc := 20) h20) ?_
  refine ac (s_ildn (M := M_jArr_copyOfRangeByte) (pc := 21) (k := 1) h21) ?_
  refine ac (s_isub (M := M_jArr_copyOfRangeByte) (pc := 22) h22) ?_
  refine ac (s_ildn (M := M_jArr_copyOfRangeByte) (pc := 23) (k := 3) h23) ?_
  refine ac (s_callS (M := M_jArr_copyOfRangeByte) (pc := 24) (tz_jArr rfl) h24 q_jMath_min wd984 wd612) ?_
  refine ac (s_copy (M := M_jArr_copyOfRangeByte) (pc := 27) h27 wd985 wd987 wd986 wd36) ?_
  refine ac (s_ald (M := M_jArr_copyOfRangeByte) (pc := 30) h30) ?_
  refine ac (s_aret (M := M_jArr_copyOfRangeByte) (pc := 32) h32 rfl (Or.inr ⟨_, rfl⟩)) ?_
  exact ac_nil
theorem e0_jArr_checkLength : decode prog_35_method_131_code 0 = .ok (.iload_n 1, 1) ∧ decode prog_35_method_131_code 1 = .ok (.iload_n 0, 1) ∧ decode prog_35_method_131_code 2 = .ok (.if_icmp .ge 35, 3) ∧ decode prog_35_method_131_code 5 = .ok (.new 43, 3) ∧ decode prog_35_method_131_code 8 = .ok (.dup, 1) ∧ decode prog_35_method_131_code 9 = .ok (.new 45, 3) ∧ decode prog_35_method_131_code 12 = .ok (.dup, 1) ∧ decode prog_35_method_131_code 13 = .ok (.invokespecial 47, 3) ∧ decode prog_35_method_131_code 16 = .ok (.iload_n 0, 1) ∧ decode prog_35_method_131_code 17 = .ok (.invokevirtual 54, 3) ∧ decode prog_35_method_131_code 20 = .ok (.ldc_w 337, 3) ∧ decode prog_35_method_131_code 23 = .ok (.invokevirtual 50, 3) := by decide +kernel
theorem e1_jArr_checkLength : decode prog_35_method_131_code 26 = .ok (.iload_n 1, 1) ∧ decode prog_35_method_131_code 27 = .ok (.invokevirtual 54, 3) ∧ decode prog_35_method_131_code 30 = .ok (.invokevirtual 61, 3) ∧ decode prog_35_method_131_code 33 = .ok (.invokespecial 65, 3) ∧ decode prog_35_method_131_code 36 = .ok (.athrow, 1) ∧ decode prog_35_method_131_code 37 = .ok (.return_, 1) := by decide +kernel
def T_jArr_checkLength : TT := [(0, o_ild 1 1), (1, o_ild 0 2), (2, o_icmp_ge 37 5), (8, o_dup 9), (12, o_dup 13), (16, o_ild 0 17), (26, o_ild 1 27), (37, o_vret)]
theorem k_jArr_checkLength : ∀ x ∈ T_jArr_checkLength, SO M_jArr_checkLength x.1 x.2 := by
  obtain ⟨h0, h1, h2, h5, h8, h9, h12, h13, h16, h17, h20, h23⟩ := e0_jArr_checkLength
  obtain ⟨h26, h27, h30, h33, h36, h37⟩ := e1_jArr_checkLength
  refine ac (s_ildn (M := M_jArr_checkLength) (pc := 0) (k := 1) h0) ?_
  refine ac (s_ildn (M := M_jArr_checkLength) (pc := 1) (k := 0) h1) ?_
  refine ac (s_icmp_ge (M := M_jArr_checkLength) (pc := 2) h2 (by decide)) ?_
  refine ac (s_dup (M := M_jArr_checkLength) (pc := 8) h8) ?_
  refine ac (s_dup (M := M_jArr_checkLength) (pc := 12) h12) ?_
  refine ac (s_ildn (M := M_jArr_checkLength) (pc := 16) (k := 0) h16) ?_
  refine ac (s_ildn (M := M_jArr_checkLength) (pc := 26) (k := 1) h26) ?_
  refine ac (s_vret (M := M_jArr_checkLength) (pc := 37) h37 rfl) ?_
  exact ac_nil
