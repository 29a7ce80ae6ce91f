def T_jStr_length_d : TT := [(0, o_ald 0 1), (1, o_get 8 0 4), (4, o_alen 5), (5, o_ald 0 6), (6, o_callV M_jStr_coder 8 1 9), (9, o_ishr 10), (10, o_iret)]
theorem k_jStr_length_d : ∀ x ∈ T_jStr_length_d, SO M_jStr_length x.1 x.2 := by
  obtain ⟨h0, h1, h4, h5, h6, h9, h10⟩ := e0_jStr_length
  refine ac (s_aldn (M := M_jStr_length) (pc := 0) (k := 0) h0) ?_
  refine ac (s_get (M := M_jStr_length) (pc := 1) (T := TJ0) (N := 4) h1 rfl in_J0 (by decide) wd1119) ?_
  refine ac (s_alen (M := M_jStr_length) (pc := 4) h4) ?_
  refine ac (s_aldn (M := M_jStr_length) (pc := 5) (k := 0) h5) ?_
  refine ac (s_callV (M := M_jStr_length) (pc := 6) (tz_jStr rfl) h6 q_jStr_coder wd675 wd676 wd677 rfl (T := TJ0) (N := 4) rfl) ?_
  refine ac (s_ishr (M := M_jStr_length) (pc := 9) h9) ?_
  refine ac (s_iret (M := M_jStr_length) (pc := 10) h10 rfl) ?_
  exact ac_nil
def T_jStr_charAt_d : TT := [(0, o_ald 0 1), (1, o_callV M_jStr_isLatin1 8 1 4), (4, o_if_eq 16 7), (7, o_ald 0 8), (8, o_get 8 0 11), (11, o_ild 1 12), (12, o_call M_jLat_charAt 2 15), (15, o_nret .char), (16, o_ald 0 17), (17, o_get 8 0 20), (20, o_ild 1 21), (21, o_call M_jU16_charAt 2 24), (24, o_nret .char)]
theorem k_jStr_charAt_d : ∀ x ∈ T_jStr_charAt_d, SO M_jStr_charAt x.1 x.2 := by
  obtain ⟨h0, h1, h4, h7, h8, h11, h12, h15, h16, h17, h20, h21⟩ := e0_jStr_charAt
  have h24 := e1_jStr_charAt
  refine ac (s_aldn (M := M_jStr_charAt) (pc := 0) (k := 0) h0) ?_
  refine ac (s_callV (M := M_jStr_charAt) (pc := 1) (tz_jStr rfl) h1 q_jStr_isLatin1 wd684 wd685 wd686 rfl (T := TJ0) (N := 4) rfl) ?_
  refine ac (s_if_eq (M := M_jStr_charAt) (pc := 4) h4 (by decide)) ?_
  refine ac (s_aldn (M := M_jStr_charAt) (pc := 7) (k := 0) h7) ?_
  refine ac (s_get (M := M_jStr_charAt) (pc := 8) (T := TJ0) (N := 4) h8 rfl in_J0 (by decide) wd1119) ?_
  refine ac (s_ildn (M := M_jStr_charAt) (pc := 11) (k := 1) h11) ?_
  refine ac (s_callS (M := M_jStr_charAt) (pc := 12) (tz_jStr rfl) h12 q_jLat_charAt wd688 wd689) ?_
  refine ac (s_nret (M := M_jStr_charAt) (pc := 15) h15 rfl) ?_
  refine ac (s_aldn (M := M_jStr_charAt) (pc := 16) (k := 0) h16) ?_
  refine ac (s_get (M := M_jStr_charAt) (pc := 17) (T := TJ0) (N := 4) h17 rfl in_J0 (by decide) wd1119) ?_
  refine ac (s_ildn (M := M_jStr_charAt) (pc := 20) (k := 1) h20) ?_
  refine ac (s_callS (M := M_jStr_charAt) (pc := 21) (tz_jStr rfl) h21 q_jU16_charAt wd699 wd700) ?_
  refine ac (s_nret (M := M_jStr_charAt) (pc := 24) h24 rfl) ?_
  exact ac_nil
def T_jStr_coder_d : TT := [(0, o_push (.int (iI 1)) 3), (3, o_if_eq 13 6), (6, o_ald 0 7), (7, o_get 8 1 10), (10, o_goto 14), (13, o_push (.int (iI (1))) 14), (14, o_nret .byte)]
theorem k_jStr_coder_d : ∀ x ∈ T_jStr_coder_d, SO M_jStr_coder x.1 x.2 := by
  obtain ⟨h0, h3, h6, h7, h10, h13, h14⟩ := e0_jStr_coder
  refine ac (s_getC (M := M_jStr_coder) (pc := 0) h0 wd679) ?_
  refine ac (s_if_eq (M := M_jStr_coder) (pc := 3) h3 (by decide)) ?_
  refine ac (s_aldn (M := M_jStr_coder) (pc := 6) (k := 0) h6) ?_
  refine ac (s_get (M := M_jStr_coder) (pc := 7) (T := TJ0) (N := 4) h7 rfl in_J0 (by decide) wd1120) ?_
  refine ac (s_goto (M := M_jStr_coder) (pc := 10) h10 (by decide)) ?_
  refine ac (s_iconst (M := M_jStr_coder) (pc := 13) h13 rfl) ?_
  refine ac (s_nret (M := M_jStr_coder) (pc := 14) h14 rfl) ?_
  exact ac_nil
def T_jStr_isLatin1_d : TT := [(0, o_push (.int (iI 1)) 3), (3, o_if_eq 17 6), (6, o_ald 0 7), (7, o_get 8 1 10), (10, o_if_ne 17 13), (13, o_push (.int (iI (1))) 14), (14, o_goto 18), (17, o_push (.int (iI (0))) 18), (18, o_zret)]
theorem k_jStr_isLatin1_d : ∀ x ∈ T_jStr_isLatin1_d, SO M_jStr_isLatin1 x.1 x.2 := by
  obtain ⟨h0, h3, h6, h7, h10, h13, h14, h17, h18⟩ := e0_jStr_isLatin1
  refine ac (s_getC (M := M_jStr_isLatin1) (pc := 0) h0 wd679) ?_
  refine ac (s_if_eq (M := M_jStr_isLatin1) (pc := 3) h3 (by decide)) ?_
  refine ac (s_aldn (M := M_jStr_isLatin1) (pc := 6) (k := 0) h6) ?_
  refine ac (s_get (M := M_jStr_isLatin1) (pc := 7) (T := TJ0) (N := 4) h7 rfl in_J0 (by decide) wd1120) ?_
  refine ac (s_if_ne (M := M_jStr_isLatin1) (pc := 10) h10 (by decide)) ?_
  refine ac (s_iconst (M := M_jStr_isLatin1) (pc := 13) h13 rfl) ?_
  refine ac (s_goto (M := M_jStr_isLatin1) (pc := 14) h14 (by decide)) ?_
  refine ac (s_iconst (M := M_jStr_isLatin1) (pc := 17) h17 rfl) ?_
  refine ac (s_zret (M := M_jStr_isLatin1) (pc := 18) h18 rfl) ?_
  exact ac_nil
def T_jLat_charAt_d : TT := [(0, o_ild 1 1), (1, o_ald 0 2), (2, o_alen 3), (3, o_call M_jStr_checkIndex 2 6), (6, o_ald 0 7), (7, o_ild 1 8), (8, o_bald 9), (9, o_push (.int (iI (255))) 12), (12, o_iand 13), (13, o_i2c 14), (14, o_nret .char)]
theorem k_jLat_charAt_d : ∀ x ∈ T_jLat_charAt_d, SO M_jLat_charAt x.1 x.2 := by
  obtain ⟨h0, h1, h2, h3, h6, h7, h8, h9, h12, h13, h14⟩ := e0_jLat_charAt
  refine ac (s_ildn (M := M_jLat_charAt) (pc := 0) (k := 1) h0) ?_
  refine ac (s_aldn (M := M_jLat_charAt) (pc := 1) (k := 0) h1) ?_
  refine ac (s_alen (M := M_jLat_charAt) (pc := 2) h2) ?_
  refine ac (s_callS (M := M_jLat_charAt) (pc := 3) (tz_jLat rfl) h3 q_jStr_checkIndex wd691 wd692) ?_
  refine ac (s_aldn (M := M_jLat_charAt) (pc := 6) (k := 0) h6) ?_
  refine ac (s_ildn (M := M_jLat_charAt) (pc := 7) (k := 1) h7) ?_
  refine ac (s_bald (M := M_jLat_charAt) (pc := 8) h8) ?_
  refine ac (s_sipush (M := M_jLat_charAt) (pc := 9) h9 (by decide)) ?_
  refine ac (s_iand (M := M_jLat_charAt) (pc := 12) h12) ?_
  refine ac (s_i2c (M := M_jLat_charAt) (pc := 13) h13) ?_
  refine ac (s_nret (M := M_jLat_charAt) (pc := 14) h14 rfl) ?_
  exact ac_nil
