theorem e0_Mm_thrown : decode prog_10_method_1_code 0 = .ok (.aload_n 0, 1) ∧ decode prog_10_method_1_code 1 = .ok (.getfield 1, 3) ∧ decode prog_10_method_1_code 4 = .ok (.ireturn, 1) := by decide +kernel
def T_Mm_thrown : TT := [(0, o_ald 0 1), (1, o_get 8 0 4), (4, o_iret)]
theorem k_Mm_thrown : ∀ x ∈ T_Mm_thrown, SO M_Mm_thrown x.1 x.2 := by
  obtain ⟨h0, h1, h4⟩ := e0_Mm_thrown
  refine ac (s_aldn (M := M_Mm_thrown) (pc := 0) (k := 0) h0) ?_
  refine ac (s_get (M := M_Mm_thrown) (pc := 1) (T := TX8) (N := 29) h1 rfl in_X8 (by decide) wd1689) ?_
  refine ac (s_iret (M := M_Mm_thrown) (pc := 4) h4 rfl) ?_
  exact ac_nil
theorem e0_Mm_init : decode prog_10_method_4_code 0 = .ok (.aload_n 0, 1) ∧ decode prog_10_method_4_code 1 = .ok (.invokespecial 7, 3) ∧ decode prog_10_method_4_code 4 = .ok (.aload_n 0, 1) ∧ decode prog_10_method_4_code 5 = .ok (.bipush 70, 2) ∧ decode prog_10_method_4_code 7 = .ok (.newarray .int, 2) ∧ decode prog_10_method_4_code 9 = .ok (.putfield 13, 3) ∧ decode prog_10_method_4_code 12 = .ok (.aload_n 0, 1) ∧ decode prog_10_method_4_code 13 = .ok (.bipush 70, 2) ∧ decode prog_10_method_4_code 15 = .ok (.newarray .int, 2) ∧ decode prog_10_method_4_code 17 = .ok (.putfield 17, 3) ∧ decode prog_10_method_4_code 20 = .ok (.aload_n 0, 1) ∧ decode prog_10_method_4_code 21 = .ok (.bipush 70, 2) := by decide +kernel
theorem e1_Mm_init : decode prog_10_method_4_code 23 = .ok (.newarray .int, 2) ∧ decode prog_10_method_4_code 25 = .ok (.putfield 20, 3) ∧ decode prog_10_method_4_code 28 = .ok (.aload_n 0, 1) ∧ decode prog_10_method_4_code 29 = .ok (.sipush 560, 3) ∧ decode prog_10_method_4_code 32 = .ok (.newarray .int, 2) ∧ decode prog_10_method_4_code 34 = .ok (.putfield 23, 3) ∧ decode prog_10_method_4_code 37 = .ok (.aload_n 0, 1) ∧ decode prog_10_method_4_code 38 = .ok (.sipush 400, 3) ∧ decode prog_10_method_4_code 41 = .ok (.newarray .int, 2) ∧ decode prog_10_method_4_code 43 = .ok (.putfield 26, 3) ∧ decode prog_10_method_4_code 46 = .ok (.aload_n 0, 1) ∧ decode prog_10_method_4_code 47 = .ok (.sipush 500, 3) := by decide +kernel
theorem e2_Mm_init : decode prog_10_method_4_code 50 = .ok (.newarray .byte, 2) ∧ decode prog_10_method_4_code 52 = .ok (.putfield 29, 3) ∧ decode prog_10_method_4_code 55 = .ok (.aload_n 0, 1) ∧ decode prog_10_method_4_code 56 = .ok (.iconst (-1), 1) ∧ decode prog_10_method_4_code 57 = .ok (.putfield 33, 3) ∧ decode prog_10_method_4_code 60 = .ok (.aload_n 0, 1) ∧ decode prog_10_method_4_code 61 = .ok (.bipush 100, 2) ∧ decode prog_10_method_4_code 63 = .ok (.newarray .int, 2) ∧ decode prog_10_method_4_code 65 = .ok (.putfield 36, 3) ∧ decode prog_10_method_4_code 68 = .ok (.aload_n 0, 1) ∧ decode prog_10_method_4_code 69 = .ok (.sipush 520, 3) ∧ decode prog_10_method_4_code 72 = .ok (.newarray .int, 2) := by decide +kernel
theorem e3_Mm_init : decode prog_10_method_4_code 74 = .ok (.putfield 39, 3) ∧ decode prog_10_method_4_code 77 = .ok (.aload_n 0, 1) ∧ decode prog_10_method_4_code 78 = .ok (.sipush 520, 3) ∧ decode prog_10_method_4_code 81 = .ok (.newarray .int, 2) ∧ decode prog_10_method_4_code 83 = .ok (.putfield 42, 3) ∧ decode prog_10_method_4_code 86 = .ok (.aload_n 0, 1) ∧ decode prog_10_method_4_code 87 = .ok (.bipush 70, 2) ∧ decode prog_10_method_4_code 89 = .ok (.newarray .int, 2) ∧ decode prog_10_method_4_code 91 = .ok (.putfield 45, 3) ∧ decode prog_10_method_4_code 94 = .ok (.aload_n 0, 1) ∧ decode prog_10_method_4_code 95 = .ok (.bipush 8, 2) ∧ decode prog_10_method_4_code 97 = .ok (.newarray .long, 2) := by decide +kernel
theorem e4_Mm_init : decode prog_10_method_4_code 99 = .ok (.putfield 48, 3) ∧ decode prog_10_method_4_code 102 = .ok (.aload_n 0, 1) ∧ decode prog_10_method_4_code 103 = .ok (.bipush 80, 2) ∧ decode prog_10_method_4_code 105 = .ok (.newarray .byte, 2) ∧ decode prog_10_method_4_code 107 = .ok (.putfield 52, 3) ∧ decode prog_10_method_4_code 110 = .ok (.aload_n 0, 1) ∧ decode prog_10_method_4_code 111 = .ok (.getfield 13, 3) ∧ decode prog_10_method_4_code 114 = .ok (.iconst 0, 1) ∧ decode prog_10_method_4_code 115 = .ok (.iconst 3, 1) ∧ decode prog_10_method_4_code 116 = .ok (.iastore, 1) ∧ decode prog_10_method_4_code 117 = .ok (.aload_n 0, 1) ∧ decode prog_10_method_4_code 118 = .ok (.getfield 13, 3) := by decide +kernel
theorem e5_Mm_init : decode prog_10_method_4_code 121 = .ok (.iconst 1, 1) ∧ decode prog_10_method_4_code 122 = .ok (.iconst 1, 1) ∧ decode prog_10_method_4_code 123 = .ok (.iastore, 1) ∧ decode prog_10_method_4_code 124 = .ok (.aload_n 0, 1) ∧ decode prog_10_method_4_code 125 = .ok (.getfield 13, 3) ∧ decode prog_10_method_4_code 128 = .ok (.bipush 11, 2) ∧ decode prog_10_method_4_code 130 = .ok (.bipush 7, 2) ∧ decode prog_10_method_4_code 132 = .ok (.iastore, 1) ∧ decode prog_10_method_4_code 133 = .ok (.aload_n 0, 1) ∧ decode prog_10_method_4_code 134 = .ok (.getfield 13, 3) ∧ decode prog_10_method_4_code 137 = .ok (.bipush 12, 2) ∧ decode prog_10_method_4_code 139 = .ok (.bipush 11, 2) := by decide +kernel
theorem e6_Mm_init : decode prog_10_method_4_code 141 = .ok (.iastore, 1) ∧ decode prog_10_method_4_code 142 = .ok (.aload_n 0, 1) ∧ decode prog_10_method_4_code 143 = .ok (.getfield 13, 3) ∧ decode prog_10_method_4_code 146 = .ok (.bipush 13, 2) ∧ decode prog_10_method_4_code 148 = .ok (.bipush 13, 2) ∧ decode prog_10_method_4_code 150 = .ok (.iastore, 1) ∧ decode prog_10_method_4_code 151 = .ok (.return_, 1) := by decide +kernel
def T_Mm_init : TT := [(0, o_ald 0 1), (1, o_oinit 4), (4, o_ald 0 5), (5, o_push (.int (iI (70))) 7), (7, o_newai 1 9), (9, o_putr 8 1 12), (12, o_ald 0 13), (13, o_push (.int (iI (70))) 15), (15, o_newai 1 17), (17, o_putr 8 2 20), (20, o_ald 0 21), (21, o_push (.int (iI (70))) 23), (23, o_newai 1 25), (25, o_putr 8 3 28), (28, o_ald 0 29), (29, o_push (.int (iI (560))) 32), (32, o_newai 1 34), (34, o_putr 8 4 37), (37, o_ald 0 38), (38, o_push (.int (iI (400))) 41), (41, o_newai 1 43), (43, o_putr 8 7 46), (46, o_ald 0 47), (47, o_push (.int (iI (500))) 50), (50, o_newai 0 52), (52, o_putr 8 8 55), (55, o_ald 0 56), (56, o_push (.int (iI (-1))) 57), (57, o_puti 8 11 60), (60, o_ald 0 61), (61, o_push (.int (iI (100))) 63), (63, o_newai 1 65), (65, o_putr 8 17 68), (68, o_ald 0 69), (69, o_push (.int (iI (520))) 72), (72, o_newai 1 74), (74, o_putr 8 19 77), (77, o_ald 0 78), (78, o_push (.int (iI (520))) 81), (81, o_newai 1 83), (83, o_putr 8 20 86), (86, o_ald 0 87), (87, o_push (.int (iI (70))) 89), (89, o_newai 1 91), (91, o_putr 8 24 94), (94, o_ald 0 95), (95, o_push (.int (iI (8))) 97), (97, o_newal 99), (99, o_putr 8 26 102), (102, o_ald 0 103), (103, o_push (.int (iI (80))) 105), (105, o_newai 0 107), (107, o_putr 8 27 110), (110, o_ald 0 111), (111, o_get 8 1 114), (114, o_push (.int (iI (0))) 115), (115, o_push (.int (iI (3))) 116), (116, o_iast 117), (117, o_ald 0 118), (118, o_get 8 1 121), (121, o_push (.int (iI (1))) 122), (122, o_push (.int (iI (1))) 123), (123, o_iast 124), (124, o_ald 0 125), (125, o_get 8 1 128), (128, o_push (.int (iI (11))) 130), (130, o_push (.int (iI (7))) 132), (132, o_iast 133), (133, o_ald 0 134), (134, o_get 8 1 137), (137, o_push (.int (iI (12))) 139), (139, o_push (.int (iI (11))) 141), (141, o_iast 142), (142, o_ald 0 143), (143, o_get 8 1 146), (146, o_push (.int (iI (13))) 148), (148, o_push (.int (iI (13))) 150), (150, o_iast 151), (151, o_vret)]
theorem k_Mm_init : ∀ x ∈ T_Mm_init, SO M_Mm_init x.1 x.2 := by
  obtain ⟨h0, h1, h4, h5, h7, h9, h12, h13, h15, h17, h20, h21⟩ := e0_Mm_init
  obtain ⟨h23, h25, h28, h29, h32, h34, h37, h38, h41, h43, h46, h47⟩ := e1_Mm_init
  obtain ⟨h50, h52, h55, h56, h57, h60, h61, h63, h65, h68, h69, h72⟩ := e2_Mm_init
  obtain ⟨h74, h77, h78, h81, h83, h86, h87, h89, h91, h94, h95, h97⟩ := e3_Mm_init
  obtain ⟨h99, h102, h103, h105, h107, h110, h111, h114, h115, h116, h117, h118⟩ := e4_Mm_init
  obtain ⟨h121, h122, h123, h124, h125, h128, h130, h132, h133, h134, h137, h139⟩ := e5_Mm_init
  obtain ⟨h141, h142, h143, h146, h148, h150, h151⟩ := e6_Mm_init
  refine ac (s_aldn (M := M_Mm_init) (pc := 0) (k := 0) h0) ?_
  refine ac (s_oinit (M := M_Mm_init) (pc := 1) h1 wd1688 wd148 wd149) ?_
  refine ac (s_aldn (M := M_Mm_init) (pc := 4) (k := 0) h4) ?_
  refine ac (s_bipush (M := M_Mm_init) (pc := 5) h5 (by decide)) ?_
  refine ac (s_newai (M := M_Mm_init) (pc := 7) (t := 1) h7 rfl (fun _ => rfl) wd191 (by decide) (fun _ _ => rfl)) ?_
  refine ac (s_putr (M := M_Mm_init) (pc := 9) (T := TX8) (N := 29) (ty0 := tyX8) h9 ⟨rfl, in_X8, by decide, wd1690, tyX8_ok, nmX8, (Or.inr ⟨rfl, rfl, rfl⟩)⟩ (Or.inr ⟨_, rfl⟩)) ?_
  refine ac (s_aldn (M := M_Mm_init) (pc := 12) (k := 0) h12) ?_
  refine ac (s_bipush (M := M_Mm_init) (pc := 13) h13 (by decide)) ?_
  refine ac (s_newai (M := M_Mm_init) (pc := 15) (t := 1) h15 rfl (fun _ => rfl) wd191 (by decide) (fun _ _ => rfl)) ?_
  refine ac (s_putr (M := M_Mm_init) (pc := 17) (T := TX8) (N := 29) (ty0 := tyX8) h17 ⟨rfl, in_X8, by decide, wd1691, tyX8_ok, nmX8, (Or.inr ⟨rfl, rfl, rfl⟩)⟩ (Or.inr ⟨_, rfl⟩)) ?_
  refine ac (s_aldn (M := M_Mm_init) (pc := 20) (k := 0) h20) ?_
  refine ac (s_bipush (M := M_Mm_init) (pc := 21) h21 (by decide)) ?_
  refine ac (s_newai (M := M_Mm_init) (pc := 23) (t := 1) h23 rfl (fun _ => rfl) wd191 (by decide) (fun _ _ => rfl)) ?_
  refine ac (s_putr (M := M_Mm_init) (pc := 25) (T := TX8) (N := 29) (ty0 := tyX8) h25 ⟨rfl, in_X8, by decide, wd1692, tyX8_ok, nmX8, (Or.inr ⟨rfl, rfl, rfl⟩)⟩ (Or.inr ⟨_, rfl⟩)) ?_
  refine ac (s_aldn (M := M_Mm_init) (pc := 28) (k := 0) h28) ?_
  refine ac (s_sipush (M := M_Mm_init) (pc := 29) h29 (by decide)) ?_
  refine ac (s_newai (M := M_Mm_init) (pc := 32) (t := 1) h32 rfl (fun _ => rfl) wd191 (by decide) (fun _ _ => rfl)) ?_
  refine ac (s_putr (M := M_Mm_init) (pc := 34) (T := TX8) (N := 29) (ty0 := tyX8) h34 ⟨rfl, in_X8, by decide, wd1693, tyX8_ok, nmX8, (Or.inr ⟨rfl, rfl, rfl⟩)⟩ (Or.inr ⟨_, rfl⟩)) ?_
  refine ac (s_aldn (M := M_Mm_init) (pc := 37) (k := 0) h37) ?_
  refine ac (s_sipush (M := M_Mm_init) (pc := 38) h38 (by decide)) ?_
  refine ac (s_newai (M := M_Mm_init) (pc := 41) (t := 1) h41 rfl (fun _ => rfl) wd191 (by decide) (fun _ _ => rfl)) ?_
  refine ac (s_putr (M := M_Mm_init) (pc := 43) (T := TX8) (N := 29) (ty0 := tyX8) h43 ⟨rfl, in_X8, by decide, wd1696, tyX8_ok, nmX8, (Or.inr ⟨rfl, rfl, rfl⟩)⟩ (Or.inr ⟨_, rfl⟩)) ?_
  refine ac (s_aldn (M := M_Mm_init) (pc := 46) (k := 0) h46) ?_
  refine ac (s_sipush (M := M_Mm_init) (pc := 47) h47 (by decide)) ?_
  refine ac (s_newai (M := M_Mm_init) (pc := 50) (t := 0) h50 rfl (fun _ => rfl) wd190 (by decide) (fun _ _ => rfl)) ?_
  refine ac (s_putr (M := M_Mm_init) (pc := 52) (T := TX8) (N := 29) (ty0 := tyX8) h52 ⟨rfl, in_X8, by decide, wd1697, tyX8_ok, nmX8, (Or.inr ⟨rfl, rfl, rfl⟩)⟩ (Or.inr ⟨_, rfl⟩)) ?_
  refine ac (s_aldn (M := M_Mm_init) (pc := 55) (k := 0) h55) ?_
  refine ac (s_iconst (M := M_Mm_init) (pc := 56) h56 rfl) ?_
  refine ac (s_puti (M := M_Mm_init) (pc := 57) (T := TX8) (N := 29) (ty0 := tyX8) h57 ⟨rfl, in_X8, by decide, wd1700, tyX8_ok, nmX8, (Or.inl rfl)⟩ rfl) ?_
  refine ac (s_aldn (M := M_Mm_init) (pc := 60) (k := 0) h60) ?_
  refine ac (s_bipush (M := M_Mm_init) (pc := 61) h61 (by decide)) ?_
  refine ac (s_newai (M := M_Mm_init) (pc := 63) (t := 1) h63 rfl (fun _ => rfl) wd191 (by decide) (fun _ _ => rfl)) ?_
  refine ac (s_putr (M := M_Mm_init) (pc := 65) (T := TX8) (N := 29) (ty0 := tyX8) h65 ⟨rfl, in_X8, by decide, wd1706, tyX8_ok, nmX8, (Or.inr ⟨rfl, rfl, rfl⟩)⟩ (Or.inr ⟨_, rfl⟩)) ?_
  refine ac (s_aldn (M := M_Mm_init) (pc := 68) (k := 0) h68) ?_
  refine ac (s_sipush (M := M_Mm_init) (pc := 69) h69 (by decide)) ?_
  refine ac (s_newai (M := M_Mm_init) (pc := 72) (t := 1) h72 rfl (fun _ => rfl) wd191 (by decide) (fun _ _ => rfl)) ?_
  refine ac (s_putr (M := M_Mm_init) (pc := 74) (T := TX8) (N := 29) (ty0 := tyX8) h74 ⟨rfl, in_X8, by decide, wd1708, tyX8_ok, nmX8, (Or.inr ⟨rfl, rfl, rfl⟩)⟩ (Or.inr ⟨_, rfl⟩)) ?_
  refine ac (s_aldn (M := M_Mm_init) (pc := 77) (k := 0) h77) ?_
  refine ac (s_sipush (M := M_Mm_init) (pc := 78) h78 (by decide)) ?_
  refine ac (s_newai (M := M_Mm_init) (pc := 81) (t := 1) h81 rfl (fun _ => rfl) wd191 (by decide) (fun _ _ => rfl)) ?_
  refine ac (s_putr (M := M_Mm_init) (pc := 83) (T := TX8) (N := 29) (ty0 := tyX8) h83 ⟨rfl, in_X8, by decide, wd1709, tyX8_ok, nmX8, (Or.inr ⟨rfl, rfl, rfl⟩)⟩ (Or.inr ⟨_, rfl⟩)) ?_
  refine ac (s_aldn (M := M_Mm_init) (pc := 86) (k := 0) h86) ?_
  refine ac (s_bipush (M := M_Mm_init) (pc := 87) h87 (by decide)) ?_
  refine ac (s_newai (M := M_Mm_init) (pc := 89) (t := 1) h89 rfl (fun _ => rfl) wd191 (by decide) (fun _ _ => rfl)) ?_
  refine ac (s_putr (M := M_Mm_init) (pc := 91) (T := TX8) (N := 29) (ty0 := tyX8) h91 ⟨rfl, in_X8, by decide, wd1713, tyX8_ok, nmX8, (Or.inr ⟨rfl, rfl, rfl⟩)⟩ (Or.inr ⟨_, rfl⟩)) ?_
  refine ac (s_aldn (M := M_Mm_init) (pc := 94) (k := 0) h94) ?_
  refine ac (s_bipush (M := M_Mm_init) (pc := 95) h95 (by decide)) ?_
  refine ac (s_newal (M := M_Mm_init) (pc := 97) h97 rfl wd192 (fun _ _ => rfl)) ?_
  refine ac (s_putr (M := M_Mm_init) (pc := 99) (T := TX8) (N := 29) (ty0 := tyX8) h99 ⟨rfl, in_X8, by decide, wd1715, tyX8_ok, nmX8, (Or.inr ⟨rfl, rfl, rfl⟩)⟩ (Or.inr ⟨_, rfl⟩)) ?_
  refine ac (s_aldn (M := M_Mm_init) (pc := 102) (k := 0) h102) ?_
  refine ac (s_bipush (M := M_Mm_init) (pc := 103) h103 (by decide)) ?_
  refine ac (s_newai (M := M_Mm_init) (pc := 105) (t := 0) h105 rfl (fun _ => rfl) wd190 (by decide) (fun _ _ => rfl)) ?_
  refine ac (s_putr (M := M_Mm_init) (pc := 107) (T := TX8) (N := 29) (ty0 := tyX8) h107 ⟨rfl, in_X8, by decide, wd1716, tyX8_ok, nmX8, (Or.inr ⟨rfl, rfl, rfl⟩)⟩ (Or.inr ⟨_, rfl⟩)) ?_
  refine ac (s_aldn (M := M_Mm_init) (pc := 110) (k := 0) h110) ?_
  refine ac (s_get (M := M_Mm_init) (pc := 111) (T := TX8) (N := 29) h111 rfl in_X8 (by decide) wd1690) ?_
  refine ac (s_iconst (M := M_Mm_init) (pc := 114) h114 rfl) ?_
  refine ac (s_iconst (M := M_Mm_init) (pc := 115) h115 rfl) ?_
  refine ac (s_iast (M := M_Mm_init) (pc := 116) h116) ?_
  refine ac (s_aldn (M := M_Mm_init) (pc := 117) (k := 0) h117) ?_
  refine ac (s_get (M := M_Mm_init) (pc := 118) (T := TX8) (N := 29) h118 rfl in_X8 (by decide) wd1690) ?_
  refine ac (s_iconst (M := M_Mm_init) (pc := 121) h121 rfl) ?_
  refine ac (s_iconst (M := M_Mm_init) (pc := 122) h122 rfl) ?_
  refine ac (s_iast (M := M_Mm_init) (pc := 123) h123) ?_
  refine ac (s_aldn (M := M_Mm_init) (pc := 124) (k := 0) h124) ?_
  refine ac (s_get (M := M_Mm_init) (pc := 125) (T := TX8) (N := 29) h125 rfl in_X8 (by decide) wd1690) ?_
  refine ac (s_bipush (M := M_Mm_init) (pc := 128) h128 (by decide)) ?_
  refine ac (s_bipush (M := M_Mm_init) (pc := 130) h130 (by decide)) ?_
  refine ac (s_iast (M := M_Mm_init) (pc := 132) h132) ?_
  refine ac (s_aldn (M := M_Mm_init) (pc := 133) (k := 0) h133) ?_
  refine ac (s_get (M := M_Mm_init) (pc := 134) (T := TX8) (N := 29) h134 rfl in_X8 (by decide) wd1690) ?_
  refine ac (s_bipush (M := M_Mm_init) (pc := 137) h137 (by decide)) ?_
  refine ac (s_bipush (M := M_Mm_init) (pc := 139) h139 (by decide)) ?_
  refine ac (s_iast (M := M_Mm_init) (pc := 141) h141) ?_
  refine ac (s_aldn (M := M_Mm_init) (pc := 142) (k := 0) h142) ?_
  refine ac (s_get (M := M_Mm_init) (pc := 143) (T := TX8) (N := 29) h143 rfl in_X8 (by decide) wd1690) ?_
  refine ac (s_bipush (M := M_Mm_init) (pc := 146) h146 (by decide)) ?_
  refine ac (s_bipush (M := M_Mm_init) (pc := 148) h148 (by decide)) ?_
  refine ac (s_iast (M := M_Mm_init) (pc := 150) h150) ?_
  refine ac (s_vret (M := M_Mm_init) (pc := 151) h151 rfl) ?_
  exact ac_nil
theorem e0_Mm_appendInput : decode prog_10_method_38_code 0 = .ok (.aload_n 0, 1) ∧ decode prog_10_method_38_code 1 = .ok (.iconst 0, 1) ∧ decode prog_10_method_38_code 2 = .ok (.putfield 1, 3) ∧ decode prog_10_method_38_code 5 = .ok (.aload_n 0, 1) ∧ decode prog_10_method_38_code 6 = .ok (.getfield 160, 3) ∧ decode prog_10_method_38_code 9 = .ok (.sipush 480, 3) ∧ decode prog_10_method_38_code 12 = .ok (.if_icmp .le 5, 3) ∧ decode prog_10_method_38_code 15 = .ok (.iconst (-1), 1) ∧ decode prog_10_method_38_code 16 = .ok (.ireturn, 1) ∧ decode prog_10_method_38_code 17 = .ok (.aload_n 0, 1) ∧ decode prog_10_method_38_code 18 = .ok (.iload_n 1, 1) ∧ decode prog_10_method_38_code 19 = .ok (.invokevirtual 163, 3) := by decide +kernel
theorem e1_Mm_appendInput : decode prog_10_method_38_code 22 = .ok (.aload_n 0, 1) ∧ decode prog_10_method_38_code 23 = .ok (.iload_n 2, 1) ∧ decode prog_10_method_38_code 24 = .ok (.invokevirtual 163, 3) ∧ decode prog_10_method_38_code 27 = .ok (.aload_n 0, 1) ∧ decode prog_10_method_38_code 28 = .ok (.iload_n 3, 1) ∧ decode prog_10_method_38_code 29 = .ok (.invokevirtual 163, 3) ∧ decode prog_10_method_38_code 32 = .ok (.aload_n 0, 1) ∧ decode prog_10_method_38_code 33 = .ok (.iload 4, 2) ∧ decode prog_10_method_38_code 35 = .ok (.invokevirtual 163, 3) ∧ decode prog_10_method_38_code 38 = .ok (.aload_n 0, 1) ∧ decode prog_10_method_38_code 39 = .ok (.iload 5, 2) ∧ decode prog_10_method_38_code 41 = .ok (.invokevirtual 163, 3) := by decide +kernel
theorem e2_Mm_appendInput : decode prog_10_method_38_code 44 = .ok (.aload_n 0, 1) ∧ decode prog_10_method_38_code 45 = .ok (.getfield 160, 3) ∧ decode prog_10_method_38_code 48 = .ok (.ireturn, 1) := by decide +kernel
def T_Mm_appendInput : TT := [(0, o_ald 0 1), (1, o_push (.int (iI (0))) 2), (2, o_puti 8 0 5), (5, o_ald 0 6), (6, o_get 8 9 9), (9, o_push (.int (iI (480))) 12), (12, o_icmp_le 17 15), (15, o_push (.int (iI (-1))) 16), (16, o_iret), (17, o_ald 0 18), (18, o_ild 1 19), (19, o_callV M_Mm_puts4 8 2 22), (22, o_ald 0 23), (23, o_ild 2 24), (24, o_callV M_Mm_puts4 8 2 27), (27, o_ald 0 28), (28, o_ild 3 29), (29, o_callV M_Mm_puts4 8 2 32), (32, o_ald 0 33), (33, o_ild 4 35), (35, o_callV M_Mm_puts4 8 2 38), (38, o_ald 0 39), (39, o_ild 5 41), (41, o_callV M_Mm_puts4 8 2 44), (44, o_ald 0 45), (45, o_get 8 9 48), (48, o_iret)]
theorem k_Mm_appendInput : ∀ x ∈ T_Mm_appendInput, SO M_Mm_appendInput x.1 x.2 := by
  obtain ⟨h0, h1, h2, h5, h6, h9, h12, h15, h16, h17, h18, h19⟩ := e0_Mm_appendInput
  obtain ⟨h22, h23, h24, h27, h28, h29, h32, h33, h35, h38, h39, h41⟩ := e1_Mm_appendInput
  obtain ⟨h44, h45, h48⟩ := e2_Mm_appendInput
  refine ac (s_aldn (M := M_Mm_appendInput) (pc := 0) (k := 0) h0) ?_
  refine ac (s_iconst (M := M_Mm_appendInput) (pc := 1) h1 rfl) ?_
  refine ac (s_puti (M := M_Mm_appendInput) (pc := 2) (T := TX8) (N := 29) (ty0 := tyX8) h2 ⟨rfl, in_X8, by decide, wd1689, tyX8_ok, nmX8, (Or.inl rfl)⟩ rfl) ?_
  refine ac (s_aldn (M := M_Mm_appendInput) (pc := 5) (k := 0) h5) ?_
  refine ac (s_get (M := M_Mm_appendInput) (pc := 6) (T := TX8) (N := 29) h6 rfl in_X8 (by decide) wd1698) ?_
  refine ac (s_sipush (M := M_Mm_appendInput) (pc := 9) h9 (by decide)) ?_
  refine ac (s_icmp_le (M := M_Mm_appendInput) (pc := 12) h12 (by decide)) ?_
  refine ac (s_iconst (M := M_Mm_appendInput) (pc := 15) h15 rfl) ?_
  refine ac (s_iret (M := M_Mm_appendInput) (pc := 16) h16 rfl) ?_
  refine ac (s_aldn (M := M_Mm_appendInput) (pc := 17) (k := 0) h17) ?_
  refine ac (s_ildn (M := M_Mm_appendInput) (pc := 18) (k := 1) h18) ?_
  refine ac (s_callV (M := M_Mm_appendInput) (pc := 19) (tz_Mm rfl) h19 q_Mm_puts4 wd1781 wd1783 wd29 rfl (T := TX8) (N := 29) rfl) ?_
  refine ac (s_aldn (M := M_Mm_appendInput) (pc := 22) (k := 0) h22) ?_
  refine ac (s_ildn (M := M_Mm_appendInput) (pc := 23) (k := 2) h23) ?_
  refine ac (s_callV (M := M_Mm_appendInput) (pc := 24) (tz_Mm rfl) h24 q_Mm_puts4 wd1781 wd1783 wd29 rfl (T := TX8) (N := 29) rfl) ?_
  refine ac (s_aldn (M := M_Mm_appendInput) (pc := 27) (k := 0) h27) ?_
  refine ac (s_ildn (M := M_Mm_appendInput) (pc := 28) (k := 3) h28) ?_
  refine ac (s_callV (M := M_Mm_appendInput) (pc := 29) (tz_Mm rfl) h29 q_Mm_puts4 wd1781 wd1783 wd29 rfl (T := TX8) (N := 29) rfl) ?_
  refine ac (s_aldn (M := M_Mm_appendInput) (pc := 32) (k := 0) h32) ?_
  refine ac (s_ild (M := M_Mm_appendInput) (pc := 33) h33) ?_
  refine ac (s_callV (M := M_Mm_appendInput) (pc := 35) (tz_Mm rfl) h35 q_Mm_puts4 wd1781 wd1783 wd29 rfl (T := TX8) (N := 29) rfl) ?_
  refine ac (s_aldn (M := M_Mm_appendInput) (pc := 38) (k := 0) h38) ?_
  refine ac (s_ild (M := M_Mm_appendInput) (pc := 39) h39) ?_
  refine ac (s_callV (M := M_Mm_appendInput) (pc := 41) (tz_Mm rfl) h41 q_Mm_puts4 wd1781 wd1783 wd29 rfl (T := TX8) (N := 29) rfl) ?_
  refine ac (s_aldn (M := M_Mm_appendInput) (pc := 44) (k := 0) h44) ?_
  refine ac (s_get (M := M_Mm_appendInput) (pc := 45) (T := TX8) (N := 29) h45 rfl in_X8 (by decide) wd1698) ?_
  refine ac (s_iret (M := M_Mm_appendInput) (pc := 48) h48 rfl) ?_
  exact ac_nil
theorem e0_Mm_puts4 : decode prog_10_method_37_code 0 = .ok (.bipush 24, 2) ∧ decode prog_10_method_37_code 2 = .ok (.istore_n 2, 1) ∧ decode prog_10_method_37_code 3 = .ok (.iload_n 2, 1) ∧ decode prog_10_method_37_code 4 = .ok (.ifCond .lt 32, 3) ∧ decode prog_10_method_37_code 7 = .ok (.aload_n 0, 1) ∧ decode prog_10_method_37_code 8 = .ok (.getfield 29, 3) ∧ decode prog_10_method_37_code 11 = .ok (.aload_n 0, 1) ∧ decode prog_10_method_37_code 12 = .ok (.getfield 160, 3) ∧ decode prog_10_method_37_code 15 = .ok (.iload_n 1, 1) ∧ decode prog_10_method_37_code 16 = .ok (.iload_n 2, 1) ∧ decode prog_10_method_37_code 17 = .ok (.ishr, 1) ∧ decode prog_10_method_37_code 18 = .ok (.i2b, 1) := by decide +kernel
theorem e1_Mm_puts4 : decode prog_10_method_37_code 19 = .ok (.bastore, 1) ∧ decode prog_10_method_37_code 20 = .ok (.aload_n 0, 1) ∧ decode prog_10_method_37_code 21 = .ok (.aload_n 0, 1) ∧ decode prog_10_method_37_code 22 = .ok (.getfield 160, 3) ∧ decode prog_10_method_37_code 25 = .ok (.iconst 1, 1) ∧ decode prog_10_method_37_code 26 = .ok (.iadd, 1) ∧ decode prog_10_method_37_code 27 = .ok (.putfield 160, 3) ∧ decode prog_10_method_37_code 30 = .ok (.iinc 2 (-8), 3) ∧ decode prog_10_method_37_code 33 = .ok (.goto (-30), 3) ∧ decode prog_10_method_37_code 36 = .ok (.return_, 1) := by decide +kernel
def T_Mm_puts4 : TT := [(0, o_push (.int (iI (24))) 2), (2, o_ist 2 3), (3, o_ild 2 4), (4, o_if_lt 36 7), (7, o_ald 0 8), (8, o_get 8 8 11), (11, o_ald 0 12), (12, o_get 8 9 15), (15, o_ild 1 16), (16, o_ild 2 17), (17, o_ishr 18), (18, o_i2b 19), (19, o_bast 20), (20, o_ald 0 21), (21, o_ald 0 22), (22, o_get 8 9 25), (25, o_push (.int (iI (1))) 26), (26, o_iadd 27), (27, o_puti 8 9 30), (30, o_iinc 2 (iI (-8)) 33), (33, o_goto 3), (36, o_vret)]
theorem k_Mm_puts4 : ∀ x ∈ T_Mm_puts4, SO M_Mm_puts4 x.1 x.2 := by
  obtain ⟨h0, h2, h3, h4, h7, h8, h11, h12, h15, h16, h17, h18⟩ := e0_Mm_puts4
  obtain ⟨h19, h20, h21, h22, h25, h26, h27, h30, h33, h36⟩ := e1_Mm_puts4
  refine ac (s_bipush (M := M_Mm_puts4) (pc := 0) h0 (by decide)) ?_
  refine ac (s_istn (M := M_Mm_puts4) (pc := 2) (k := 2) h2 (by decide)) ?_
  refine ac (s_ildn (M := M_Mm_puts4) (pc := 3) (k := 2) h3) ?_
  refine ac (s_if_lt (M := M_Mm_puts4) (pc := 4) h4 (by decide)) ?_
  refine ac (s_aldn (M := M_Mm_puts4) (pc := 7) (k := 0) h7) ?_
  refine ac (s_get (M := M_Mm_puts4) (pc := 8) (T := TX8) (N := 29) h8 rfl in_X8 (by decide) wd1697) ?_
  refine ac (s_aldn (M := M_Mm_puts4) (pc := 11) (k := 0) h11) ?_
  refine ac (s_get (M := M_Mm_puts4) (pc := 12) (T := TX8) (N := 29) h12 rfl in_X8 (by decide) wd1698) ?_
  refine ac (s_ildn (M := M_Mm_puts4) (pc := 15) (k := 1) h15) ?_
  refine ac (s_ildn (M := M_Mm_puts4) (pc := 16) (k := 2) h16) ?_
  refine ac (s_ishr (M := M_Mm_puts4) (pc := 17) h17) ?_
  refine ac (s_i2b (M := M_Mm_puts4) (pc := 18) h18) ?_
  refine ac (s_bast (M := M_Mm_puts4) (pc := 19) h19) ?_
  refine ac (s_aldn (M := M_Mm_puts4) (pc := 20) (k := 0) h20) ?_
  refine ac (s_aldn (M := M_Mm_puts4) (pc := 21) (k := 0) h21) ?_
  refine ac (s_get (M := M_Mm_puts4) (pc := 22) (T := TX8) (N := 29) h22 rfl in_X8 (by decide) wd1698) ?_
  refine ac (s_iconst (M := M_Mm_puts4) (pc := 25) h25 rfl) ?_
  refine ac (s_iadd (M := M_Mm_puts4) (pc := 26) h26) ?_
  refine ac (s_puti (M := M_Mm_puts4) (pc := 27) (T := TX8) (N := 29) (ty0 := tyX8) h27 ⟨rfl, in_X8, by decide, wd1698, tyX8_ok, nmX8, (Or.inl rfl)⟩ rfl) ?_
  refine ac (s_iinc (M := M_Mm_puts4) (pc := 30) h30 rfl (by decide)) ?_
  refine ac (s_goto (M := M_Mm_puts4) (pc := 33) h33 (by decide)) ?_
  refine ac (s_vret (M := M_Mm_puts4) (pc := 36) h36 rfl) ?_
  exact ac_nil
theorem e0_Mm_truncateInput : decode prog_10_method_39_code 0 = .ok (.aload_n 0, 1) ∧ decode prog_10_method_39_code 1 = .ok (.iconst 0, 1) ∧ decode prog_10_method_39_code 2 = .ok (.putfield 1, 3) ∧ decode prog_10_method_39_code 5 = .ok (.iload_n 1, 1) ∧ decode prog_10_method_39_code 6 = .ok (.i2l, 1) ∧ decode prog_10_method_39_code 7 = .ok (.lconst 0, 1) ∧ decode prog_10_method_39_code 8 = .ok (.aload_n 0, 1) ∧ decode prog_10_method_39_code 9 = .ok (.getfield 160, 3) ∧ decode prog_10_method_39_code 12 = .ok (.i2l, 1) ∧ decode prog_10_method_39_code 13 = .ok (.invokestatic 57, 3) ∧ decode prog_10_method_39_code 16 = .ok (.ifCond .ne 5, 3) ∧ decode prog_10_method_39_code 19 = .ok (.iconst 0, 1) := by decide +kernel
theorem e1_Mm_truncateInput : decode prog_10_method_39_code 20 = .ok (.ireturn, 1) ∧ decode prog_10_method_39_code 21 = .ok (.aload_n 0, 1) ∧ decode prog_10_method_39_code 22 = .ok (.iload_n 1, 1) ∧ decode prog_10_method_39_code 23 = .ok (.putfield 160, 3) ∧ decode prog_10_method_39_code 26 = .ok (.iconst 1, 1) ∧ decode prog_10_method_39_code 27 = .ok (.ireturn, 1) := by decide +kernel
def T_Mm_truncateInput : TT := [(0, o_ald 0 1), (1, o_push (.int (iI (0))) 2), (2, o_puti 8 0 5), (5, o_ild 1 6), (6, o_i2l 7), (7, o_push (.long (lI 0)) 8), (8, o_ald 0 9), (9, o_get 8 9 12), (12, o_i2l 13), (13, o_call M_Mm_isIn 3 16), (16, o_if_ne 21 19), (19, o_push (.int (iI (0))) 20), (20, o_zret), (21, o_ald 0 22), (22, o_ild 1 23), (23, o_puti 8 9 26), (26, o_push (.int (iI (1))) 27), (27, o_zret)]
theorem k_Mm_truncateInput : ∀ x ∈ T_Mm_truncateInput, SO M_Mm_truncateInput x.1 x.2 := by
  obtain ⟨h0, h1, h2, h5, h6, h7, h8, h9, h12, h13, h16, h19⟩ := e0_Mm_truncateInput
  obtain ⟨h20, h21, h22, h23, h26, h27⟩ := e1_Mm_truncateInput
  refine ac (s_aldn (M := M_Mm_truncateInput) (pc := 0) (k := 0) h0) ?_
  refine ac (s_iconst (M := M_Mm_truncateInput) (pc := 1) h1 rfl) ?_
  refine ac (s_puti (M := M_Mm_truncateInput) (pc := 2) (T := TX8) (N := 29) (ty0 := tyX8) h2 ⟨rfl, in_X8, by decide, wd1689, tyX8_ok, nmX8, (Or.inl rfl)⟩ rfl) ?_
  refine ac (s_ildn (M := M_Mm_truncateInput) (pc := 5) (k := 1) h5) ?_
  refine ac (s_i2l (M := M_Mm_truncateInput) (pc := 6) h6) ?_
  refine ac (s_lconst (M := M_Mm_truncateInput) (pc := 7) h7 (by decide)) ?_
  refine ac (s_aldn (M := M_Mm_truncateInput) (pc := 8) (k := 0) h8) ?_
  refine ac (s_get (M := M_Mm_truncateInput) (pc := 9) (T := TX8) (N := 29) h9 rfl in_X8 (by decide) wd1698) ?_
  refine ac (s_i2l (M := M_Mm_truncateInput) (pc := 12) h12) ?_
  refine ac (s_callS (M := M_Mm_truncateInput) (pc := 13) (tz_Mm rfl) h13 q_Mm_isIn wd1789 wd1790) ?_
  refine ac (s_if_ne (M := M_Mm_truncateInput) (pc := 16) h16 (by decide)) ?_
  refine ac (s_iconst (M := M_Mm_truncateInput) (pc := 19) h19 rfl) ?_
  refine ac (s_zret (M := M_Mm_truncateInput) (pc := 20) h20 rfl) ?_
  refine ac (s_aldn (M := M_Mm_truncateInput) (pc := 21) (k := 0) h21) ?_
  refine ac (s_ildn (M := M_Mm_truncateInput) (pc := 22) (k := 1) h22) ?_
  refine ac (s_puti (M := M_Mm_truncateInput) (pc := 23) (T := TX8) (N := 29) (ty0 := tyX8) h23 ⟨rfl, in_X8, by decide, wd1698, tyX8_ok, nmX8, (Or.inl rfl)⟩ rfl) ?_
  refine ac (s_iconst (M := M_Mm_truncateInput) (pc := 26) h26 rfl) ?_
  refine ac (s_zret (M := M_Mm_truncateInput) (pc := 27) h27 rfl) ?_
  exact ac_nil
theorem e0_Mm_isIn : decode prog_10_method_2_code 0 = .ok (.lload_n 0, 1) ∧ decode prog_10_method_2_code 1 = .ok (.lload_n 2, 1) ∧ decode prog_10_method_2_code 2 = .ok (.lcmp, 1) ∧ decode prog_10_method_2_code 3 = .ok (.ifCond .lt 14, 3) ∧ decode prog_10_method_2_code 6 = .ok (.lload_n 0, 1) ∧ decode prog_10_method_2_code 7 = .ok (.lload 4, 2) ∧ decode prog_10_method_2_code 9 = .ok (.lcmp, 1) ∧ decode prog_10_method_2_code 10 = .ok (.ifCond .gt 7, 3) ∧ decode prog_10_method_2_code 13 = .ok (.iconst 1, 1) ∧ decode prog_10_method_2_code 14 = .ok (.goto 4, 3) ∧ decode prog_10_method_2_code 17 = .ok (.iconst 0, 1) ∧ decode prog_10_method_2_code 18 = .ok (.ireturn, 1) := by decide +kernel
def T_Mm_isIn : TT := [(0, o_lld 0 1), (1, o_lld 2 2), (2, o_lc_lt 17 6), (6, o_lld 0 7), (7, o_lld 4 9), (9, o_lc_gt 17 13), (13, o_push (.int (iI (1))) 14), (14, o_goto 18), (17, o_push (.int (iI (0))) 18), (18, o_zret)]
theorem k_Mm_isIn : ∀ x ∈ T_Mm_isIn, SO M_Mm_isIn x.1 x.2 := by
  obtain ⟨h0, h1, h2, h3, h6, h7, h9, h10, h13, h14, h17, h18⟩ := e0_Mm_isIn
  refine ac (s_lldn (M := M_Mm_isIn) (pc := 0) (k := 0) h0) ?_
  refine ac (s_lldn (M := M_Mm_isIn) (pc := 1) (k := 2) h1) ?_
  refine ac (s_lc_lt (M := M_Mm_isIn) (pc := 2) h2 h3 (by decide)) ?_
  refine ac (s_lldn (M := M_Mm_isIn) (pc := 6) (k := 0) h6) ?_
  refine ac (s_lld (M := M_Mm_isIn) (pc := 7) h7) ?_
  refine ac (s_lc_gt (M := M_Mm_isIn) (pc := 9) h9 h10 (by decide)) ?_
  refine ac (s_iconst (M := M_Mm_isIn) (pc := 13) h13 rfl) ?_
  refine ac (s_goto (M := M_Mm_isIn) (pc := 14) h14 (by decide)) ?_
  refine ac (s_iconst (M := M_Mm_isIn) (pc := 17) h17 rfl) ?_
  refine ac (s_zret (M := M_Mm_isIn) (pc := 18) h18 rfl) ?_
  exact ac_nil
theorem e0_Mm_errorCode : decode prog_10_method_40_code 0 = .ok (.aload_n 0, 1) ∧ decode prog_10_method_40_code 1 = .ok (.iconst 0, 1) ∧ decode prog_10_method_40_code 2 = .ok (.putfield 1, 3) ∧ decode prog_10_method_40_code 5 = .ok (.aload_n 0, 1) ∧ decode prog_10_method_40_code 6 = .ok (.getfield 166, 3) ∧ decode prog_10_method_40_code 9 = .ok (.ireturn, 1) := by decide +kernel
def T_Mm_errorCode : TT := [(0, o_ald 0 1), (1, o_push (.int (iI (0))) 2), (2, o_puti 8 0 5), (5, o_ald 0 6), (6, o_get 8 10 9), (9, o_iret)]
theorem k_Mm_errorCode : ∀ x ∈ T_Mm_errorCode, SO M_Mm_errorCode x.1 x.2 := by
  obtain ⟨h0, h1, h2, h5, h6, h9⟩ := e0_Mm_errorCode
  refine ac (s_aldn (M := M_Mm_errorCode) (pc := 0) (k := 0) h0) ?_
  refine ac (s_iconst (M := M_Mm_errorCode) (pc := 1) h1 rfl) ?_
  refine ac (s_puti (M := M_Mm_errorCode) (pc := 2) (T := TX8) (N := 29) (ty0 := tyX8) h2 ⟨rfl, in_X8, by decide, wd1689, tyX8_ok, nmX8, (Or.inl rfl)⟩ rfl) ?_
  refine ac (s_aldn (M := M_Mm_errorCode) (pc := 5) (k := 0) h5) ?_
  refine ac (s_get (M := M_Mm_errorCode) (pc := 6) (T := TX8) (N := 29) h6 rfl in_X8 (by decide) wd1699) ?_
  refine ac (s_iret (M := M_Mm_errorCode) (pc := 9) h9 rfl) ?_
  exact ac_nil
theorem e0_Mm_errorOffset : decode prog_10_method_41_code 0 = .ok (.aload_n 0, 1) ∧ decode prog_10_method_41_code 1 = .ok (.iconst 0, 1) ∧ decode prog_10_method_41_code 2 = .ok (.putfield 1, 3) ∧ decode prog_10_method_41_code 5 = .ok (.aload_n 0, 1) ∧ decode prog_10_method_41_code 6 = .ok (.getfield 33, 3) ∧ decode prog_10_method_41_code 9 = .ok (.ireturn, 1) := by decide +kernel
def T_Mm_errorOffset : TT := [(0, o_ald 0 1), (1, o_push (.int (iI (0))) 2), (2, o_puti 8 0 5), (5, o_ald 0 6), (6, o_get 8 11 9), (9, o_iret)]
theorem k_Mm_errorOffset : ∀ x ∈ T_Mm_errorOffset, SO M_Mm_errorOffset x.1 x.2 := by
  obtain ⟨h0, h1, h2, h5, h6, h9⟩ := e0_Mm_errorOffset
  refine ac (s_aldn (M := M_Mm_errorOffset) (pc := 0) (k := 0) h0) ?_
  refine ac (s_iconst (M := M_Mm_errorOffset) (pc := 1) h1 rfl) ?_
  refine ac (s_puti (M := M_Mm_errorOffset) (pc := 2) (T := TX8) (N := 29) (ty0 := tyX8) h2 ⟨rfl, in_X8, by decide, wd1689, tyX8_ok, nmX8, (Or.inl rfl)⟩ rfl) ?_
  refine ac (s_aldn (M := M_Mm_errorOffset) (pc := 5) (k := 0) h5) ?_
  refine ac (s_get (M := M_Mm_errorOffset) (pc := 6) (T := TX8) (N := 29) h6 rfl in_X8 (by decide) wd1700) ?_
  refine ac (s_iret (M := M_Mm_errorOffset) (pc := 9) h9 rfl) ?_
  exact ac_nil
theorem e0_Mm_loadMill : decode prog_10_method_61_code 0 = .ok (.aload_n 0, 1) ∧ decode prog_10_method_61_code 1 = .ok (.getfield 13, 3) ∧ decode prog_10_method_61_code 4 = .ok (.iconst 0, 1) ∧ decode prog_10_method_61_code 5 = .ok (.aload_n 0, 1) ∧ decode prog_10_method_61_code 6 = .ok (.getfield 17, 3) ∧ decode prog_10_method_61_code 9 = .ok (.iconst 0, 1) ∧ decode prog_10_method_61_code 10 = .ok (.bipush 70, 2) ∧ decode prog_10_method_61_code 12 = .ok (.invokestatic 132, 3) ∧ decode prog_10_method_61_code 15 = .ok (.iconst 0, 1) ∧ decode prog_10_method_61_code 16 = .ok (.istore_n 1, 1) ∧ decode prog_10_method_61_code 17 = .ok (.iload_n 1, 1) ∧ decode prog_10_method_61_code 18 = .ok (.bipush 70, 2) := by decide +kernel
theorem e1_Mm_loadMill : decode prog_10_method_61_code 20 = .ok (.if_icmp .ge 16, 3) ∧ decode prog_10_method_61_code 23 = .ok (.aload_n 0, 1) ∧ decode prog_10_method_61_code 24 = .ok (.getfield 13, 3) ∧ decode prog_10_method_61_code 27 = .ok (.iload_n 1, 1) ∧ decode prog_10_method_61_code 28 = .ok (.iconst 0, 1) ∧ decode prog_10_method_61_code 29 = .ok (.iastore, 1) ∧ decode prog_10_method_61_code 30 = .ok (.iinc 1 1, 3) ∧ decode prog_10_method_61_code 33 = .ok (.goto (-16), 3) ∧ decode prog_10_method_61_code 36 = .ok (.aload_n 0, 1) ∧ decode prog_10_method_61_code 37 = .ok (.iconst 0, 1) ∧ decode prog_10_method_61_code 38 = .ok (.putfield 236, 3) ∧ decode prog_10_method_61_code 41 = .ok (.aload_n 0, 1) := by decide +kernel
theorem e2_Mm_loadMill : decode prog_10_method_61_code 42 = .ok (.invokevirtual 264, 3) ∧ decode prog_10_method_61_code 45 = .ok (.aload_n 0, 1) ∧ decode prog_10_method_61_code 46 = .ok (.invokevirtual 267, 3) ∧ decode prog_10_method_61_code 49 = .ok (.aload_n 0, 1) ∧ decode prog_10_method_61_code 50 = .ok (.iconst 0, 1) ∧ decode prog_10_method_61_code 51 = .ok (.putfield 160, 3) ∧ decode prog_10_method_61_code 54 = .ok (.aload_n 0, 1) ∧ decode prog_10_method_61_code 55 = .ok (.invokevirtual 198, 3) ∧ decode prog_10_method_61_code 58 = .ok (.ifCond .ne 20, 3) ∧ decode prog_10_method_61_code 61 = .ok (.aload_n 0, 1) ∧ decode prog_10_method_61_code 62 = .ok (.getfield 17, 3) ∧ decode prog_10_method_61_code 65 = .ok (.iconst 0, 1) := by decide +kernel
theorem e3_Mm_loadMill : decode prog_10_method_61_code 66 = .ok (.aload_n 0, 1) ∧ decode prog_10_method_61_code 67 = .ok (.getfield 13, 3) ∧ decode prog_10_method_61_code 70 = .ok (.iconst 0, 1) ∧ decode prog_10_method_61_code 71 = .ok (.bipush 70, 2) ∧ decode prog_10_method_61_code 73 = .ok (.invokestatic 132, 3) ∧ decode prog_10_method_61_code 76 = .ok (.iconst (-1), 1) ∧ decode prog_10_method_61_code 77 = .ok (.ireturn, 1) ∧ decode prog_10_method_61_code 78 = .ok (.aload_n 0, 1) ∧ decode prog_10_method_61_code 79 = .ok (.iconst 0, 1) ∧ decode prog_10_method_61_code 80 = .ok (.putfield 129, 3) ∧ decode prog_10_method_61_code 83 = .ok (.aload_n 0, 1) ∧ decode prog_10_method_61_code 84 = .ok (.iconst 0, 1) := by decide +kernel
theorem e4_Mm_loadMill : decode prog_10_method_61_code 85 = .ok (.putfield 270, 3) ∧ decode prog_10_method_61_code 88 = .ok (.aload_n 0, 1) ∧ decode prog_10_method_61_code 89 = .ok (.invokevirtual 61, 3) ∧ decode prog_10_method_61_code 92 = .ok (.ireturn, 1) := by decide +kernel
def T_Mm_loadMill : TT := [(0, o_ald 0 1), (1, o_get 8 1 4), (4, o_push (.int (iI (0))) 5), (5, o_ald 0 6), (6, o_get 8 2 9), (9, o_push (.int (iI (0))) 10), (10, o_push (.int (iI (70))) 12), (12, o_call M_Mm_copies 5 15), (15, o_push (.int (iI (0))) 16), (16, o_ist 1 17), (17, o_ild 1 18), (18, o_push (.int (iI (70))) 20), (20, o_icmp_ge 36 23), (23, o_ald 0 24), (24, o_get 8 1 27), (27, o_ild 1 28), (28, o_push (.int (iI (0))) 29), (29, o_iast 30), (30, o_iinc 1 (iI (1)) 33), (33, o_goto 17), (36, o_ald 0 37), (37, o_push (.int (iI (0))) 38), (38, o_puti 8 16 41), (41, o_ald 0 42), (42, o_callV M_Mm_startsText 8 1 45), (45, o_ald 0 46), (46, o_callV M_Mm_readsSetup 8 1 49), (49, o_ald 0 50), (50, o_push (.int (iI (0))) 51), (51, o_puti 8 9 54), (54, o_ald 0 55), (55, o_callV M_Mm_isGood 8 1 58), (58, o_if_ne 78 61), (61, o_ald 0 62), (62, o_get 8 2 65), (65, o_push (.int (iI (0))) 66), (66, o_ald 0 67), (67, o_get 8 1 70), (70, o_push (.int (iI (0))) 71), (71, o_push (.int (iI (70))) 73), (73, o_call M_Mm_copies 5 76), (76, o_push (.int (iI (-1))) 77), (77, o_iret), (78, o_ald 0 79), (79, o_push (.int (iI (0))) 80), (80, o_puti 8 5 83), (83, o_ald 0 84), (84, o_push (.int (iI (0))) 85), (85, o_putz 8 6 88), (88, o_ald 0 89), (89, o_callV M_Mm_many 8 1 92), (92, o_iret)]
theorem k_Mm_loadMill : ∀ x ∈ T_Mm_loadMill, SO M_Mm_loadMill x.1 x.2 := by
  obtain ⟨h0, h1, h4, h5, h6, h9, h10, h12, h15, h16, h17, h18⟩ := e0_Mm_loadMill
  obtain ⟨h20, h23, h24, h27, h28, h29, h30, h33, h36, h37, h38, h41⟩ := e1_Mm_loadMill
  obtain ⟨h42, h45, h46, h49, h50, h51, h54, h55, h58, h61, h62, h65⟩ := e2_Mm_loadMill
  obtain ⟨h66, h67, h70, h71, h73, h76, h77, h78, h79, h80, h83, h84⟩ := e3_Mm_loadMill
  obtain ⟨h85, h88, h89, h92⟩ := e4_Mm_loadMill
  refine ac (s_aldn (M := M_Mm_loadMill) (pc := 0) (k := 0) h0) ?_
  refine ac (s_get (M := M_Mm_loadMill) (pc := 1) (T := TX8) (N := 29) h1 rfl in_X8 (by decide) wd1690) ?_
  refine ac (s_iconst (M := M_Mm_loadMill) (pc := 4) h4 rfl) ?_
  refine ac (s_aldn (M := M_Mm_loadMill) (pc := 5) (k := 0) h5) ?_
  refine ac (s_get (M := M_Mm_loadMill) (pc := 6) (T := TX8) (N := 29) h6 rfl in_X8 (by decide) wd1691) ?_
  refine ac (s_iconst (M := M_Mm_loadMill) (pc := 9) h9 rfl) ?_
  refine ac (s_bipush (M := M_Mm_loadMill) (pc := 10) h10 (by decide)) ?_
  refine ac (s_callS (M := M_Mm_loadMill) (pc := 12) (tz_Mm rfl) h12 q_Mm_copies wd1804 wd1805) ?_
  refine ac (s_iconst (M := M_Mm_loadMill) (pc := 15) h15 rfl) ?_
  refine ac (s_istn (M := M_Mm_loadMill) (pc := 16) (k := 1) h16 (by decide)) ?_
  refine ac (s_ildn (M := M_Mm_loadMill) (pc := 17) (k := 1) h17) ?_
  refine ac (s_bipush (M := M_Mm_loadMill) (pc := 18) h18 (by decide)) ?_
  refine ac (s_icmp_ge (M := M_Mm_loadMill) (pc := 20) h20 (by decide)) ?_
  refine ac (s_aldn (M := M_Mm_loadMill) (pc := 23) (k := 0) h23) ?_
  refine ac (s_get (M := M_Mm_loadMill) (pc := 24) (T := TX8) (N := 29) h24 rfl in_X8 (by decide) wd1690) ?_
  refine ac (s_ildn (M := M_Mm_loadMill) (pc := 27) (k := 1) h27) ?_
  refine ac (s_iconst (M := M_Mm_loadMill) (pc := 28) h28 rfl) ?_
  refine ac (s_iast (M := M_Mm_loadMill) (pc := 29) h29) ?_
  refine ac (s_iinc (M := M_Mm_loadMill) (pc := 30) h30 rfl (by decide)) ?_
  refine ac (s_goto (M := M_Mm_loadMill) (pc := 33) h33 (by decide)) ?_
  refine ac (s_aldn (M := M_Mm_loadMill) (pc := 36) (k := 0) h36) ?_
  refine ac (s_iconst (M := M_Mm_loadMill) (pc := 37) h37 rfl) ?_
  refine ac (s_puti (M := M_Mm_loadMill) (pc := 38) (T := TX8) (N := 29) (ty0 := tyX8) h38 ⟨rfl, in_X8, by decide, wd1705, tyX8_ok, nmX8, (Or.inl rfl)⟩ rfl) ?_
  refine ac (s_aldn (M := M_Mm_loadMill) (pc := 41) (k := 0) h41) ?_
  refine ac (s_callV (M := M_Mm_loadMill) (pc := 42) (tz_Mm rfl) h42 q_Mm_startsText wd1807 wd1809 wd30 rfl (T := TX8) (N := 29) rfl) ?_
  refine ac (s_aldn (M := M_Mm_loadMill) (pc := 45) (k := 0) h45) ?_
  refine ac (s_callV (M := M_Mm_loadMill) (pc := 46) (tz_Mm rfl) h46 q_Mm_readsSetup wd1826 wd1828 wd33 rfl (T := TX8) (N := 29) rfl) ?_
  refine ac (s_aldn (M := M_Mm_loadMill) (pc := 49) (k := 0) h49) ?_
  refine ac (s_iconst (M := M_Mm_loadMill) (pc := 50) h50 rfl) ?_
  refine ac (s_puti (M := M_Mm_loadMill) (pc := 51) (T := TX8) (N := 29) (ty0 := tyX8) h51 ⟨rfl, in_X8, by decide, wd1698, tyX8_ok, nmX8, (Or.inl rfl)⟩ rfl) ?_
  refine ac (s_aldn (M := M_Mm_loadMill) (pc := 54) (k := 0) h54) ?_
  refine ac (s_callV (M := M_Mm_loadMill) (pc := 55) (tz_Mm rfl) h55 q_Mm_isGood wd1835 wd1837 wd35 rfl (T := TX8) (N := 29) rfl) ?_
  refine ac (s_if_ne (M := M_Mm_loadMill) (pc := 58) h58 (by decide)) ?_
  refine ac (s_aldn (M := M_Mm_loadMill) (pc := 61) (k := 0) h61) ?_
  refine ac (s_get (M := M_Mm_loadMill) (pc := 62) (T := TX8) (N := 29) h62 rfl in_X8 (by decide) wd1691) ?_
  refine ac (s_iconst (M := M_Mm_loadMill) (pc := 65) h65 rfl) ?_
  refine ac (s_aldn (M := M_Mm_loadMill) (pc := 66) (k := 0) h66) ?_
  refine ac (s_get (M := M_Mm_loadMill) (pc := 67) (T := TX8) (N := 29) h67 rfl in_X8 (by decide) wd1690) ?_
  refine ac (s_iconst (M := M_Mm_loadMill) (pc := 70) h70 rfl) ?_
  refine ac (s_bipush (M := M_Mm_loadMill) (pc := 71) h71 (by decide)) ?_
  refine ac (s_callS (M := M_Mm_loadMill) (pc := 73) (tz_Mm rfl) h73 q_Mm_copies wd1804 wd1805) ?_
  refine ac (s_iconst (M := M_Mm_loadMill) (pc := 76) h76 rfl) ?_
  refine ac (s_iret (M := M_Mm_loadMill) (pc := 77) h77 rfl) ?_
  refine ac (s_aldn (M := M_Mm_loadMill) (pc := 78) (k := 0) h78) ?_
  refine ac (s_iconst (M := M_Mm_loadMill) (pc := 79) h79 rfl) ?_
  refine ac (s_puti (M := M_Mm_loadMill) (pc := 80) (T := TX8) (N := 29) (ty0 := tyX8) h80 ⟨rfl, in_X8, by decide, wd1694, tyX8_ok, nmX8, (Or.inl rfl)⟩ rfl) ?_
  refine ac (s_aldn (M := M_Mm_loadMill) (pc := 83) (k := 0) h83) ?_
  refine ac (s_iconst (M := M_Mm_loadMill) (pc := 84) h84 rfl) ?_
  refine ac (s_putz (M := M_Mm_loadMill) (pc := 85) (T := TX8) (N := 29) (ty0 := tyX8) h85 ⟨rfl, in_X8, by decide, wd1695, tyX8_ok, nmX8, (Or.inl rfl)⟩ rfl) ?_
  refine ac (s_aldn (M := M_Mm_loadMill) (pc := 88) (k := 0) h88) ?_
  refine ac (s_callV (M := M_Mm_loadMill) (pc := 89) (tz_Mm rfl) h89 q_Mm_many wd1849 wd1851 wd38 rfl (T := TX8) (N := 29) rfl) ?_
  refine ac (s_iret (M := M_Mm_loadMill) (pc := 92) h92 rfl) ?_
  exact ac_nil
theorem e0_Mm_copies : decode prog_10_method_3_code 0 = .ok (.iconst 0, 1) ∧ decode prog_10_method_3_code 1 = .ok (.istore 5, 2) ∧ decode prog_10_method_3_code 3 = .ok (.iload 5, 2) ∧ decode prog_10_method_3_code 5 = .ok (.iload 4, 2) ∧ decode prog_10_method_3_code 7 = .ok (.if_icmp .ge 21, 3) ∧ decode prog_10_method_3_code 10 = .ok (.aload_n 2, 1) ∧ decode prog_10_method_3_code 11 = .ok (.iload_n 3, 1) ∧ decode prog_10_method_3_code 12 = .ok (.iload 5, 2) ∧ decode prog_10_method_3_code 14 = .ok (.iadd, 1) ∧ decode prog_10_method_3_code 15 = .ok (.aload_n 0, 1) ∧ decode prog_10_method_3_code 16 = .ok (.iload_n 1, 1) ∧ decode prog_10_method_3_code 17 = .ok (.iload 5, 2) := by decide +kernel
theorem e1_Mm_copies : decode prog_10_method_3_code 19 = .ok (.iadd, 1) ∧ decode prog_10_method_3_code 20 = .ok (.iaload, 1) ∧ decode prog_10_method_3_code 21 = .ok (.iastore, 1) ∧ decode prog_10_method_3_code 22 = .ok (.iinc 5 1, 3) ∧ decode prog_10_method_3_code 25 = .ok (.goto (-22), 3) ∧ decode prog_10_method_3_code 28 = .ok (.return_, 1) := by decide +kernel
def T_Mm_copies : TT := [(0, o_push (.int (iI (0))) 1), (1, o_ist 5 3), (3, o_ild 5 5), (5, o_ild 4 7), (7, o_icmp_ge 28 10), (10, o_ald 2 11), (11, o_ild 3 12), (12, o_ild 5 14), (14, o_iadd 15), (15, o_ald 0 16), (16, o_ild 1 17), (17, o_ild 5 19), (19, o_iadd 20), (20, o_iald 21), (21, o_iast 22), (22, o_iinc 5 (iI (1)) 25), (25, o_goto 3), (28, o_vret)]
theorem k_Mm_copies : ∀ x ∈ T_Mm_copies, SO M_Mm_copies x.1 x.2 := by
  obtain ⟨h0, h1, h3, h5, h7, h10, h11, h12, h14, h15, h16, h17⟩ := e0_Mm_copies
  obtain ⟨h19, h20, h21, h22, h25, h28⟩ := e1_Mm_copies
  refine ac (s_iconst (M := M_Mm_copies) (pc := 0) h0 rfl) ?_
  refine ac (s_ist (M := M_Mm_copies) (pc := 1) h1 (by decide)) ?_
  refine ac (s_ild (M := M_Mm_copies) (pc := 3) h3) ?_
  refine ac (s_ild (M := M_Mm_copies) (pc := 5) h5) ?_
  refine ac (s_icmp_ge (M := M_Mm_copies) (pc := 7) h7 (by decide)) ?_
  refine ac (s_aldn (M := M_Mm_copies) (pc := 10) (k := 2) h10) ?_
  refine ac (s_ildn (M := M_Mm_copies) (pc := 11) (k := 3) h11) ?_
  refine ac (s_ild (M := M_Mm_copies) (pc := 12) h12) ?_
  refine ac (s_iadd (M := M_Mm_copies) (pc := 14) h14) ?_
  refine ac (s_aldn (M := M_Mm_copies) (pc := 15) (k := 0) h15) ?_
  refine ac (s_ildn (M := M_Mm_copies) (pc := 16) (k := 1) h16) ?_
  refine ac (s_ild (M := M_Mm_copies) (pc := 17) h17) ?_
  refine ac (s_iadd (M := M_Mm_copies) (pc := 19) h19) ?_
  refine ac (s_iald (M := M_Mm_copies) (pc := 20) h20) ?_
  refine ac (s_iast (M := M_Mm_copies) (pc := 21) h21) ?_
  refine ac (s_iinc (M := M_Mm_copies) (pc := 22) h22 rfl (by decide)) ?_
  refine ac (s_goto (M := M_Mm_copies) (pc := 25) h25 (by decide)) ?_
  refine ac (s_vret (M := M_Mm_copies) (pc := 28) h28 rfl) ?_
  exact ac_nil
theorem e0_Mm_startsText : decode prog_10_method_45_code 0 = .ok (.aload_n 0, 1) ∧ decode prog_10_method_45_code 1 = .ok (.iconst 0, 1) ∧ decode prog_10_method_45_code 2 = .ok (.putfield 1, 3) ∧ decode prog_10_method_45_code 5 = .ok (.aload_n 0, 1) ∧ decode prog_10_method_45_code 6 = .ok (.iconst 0, 1) ∧ decode prog_10_method_45_code 7 = .ok (.putfield 166, 3) ∧ decode prog_10_method_45_code 10 = .ok (.aload_n 0, 1) ∧ decode prog_10_method_45_code 11 = .ok (.iconst (-1), 1) ∧ decode prog_10_method_45_code 12 = .ok (.putfield 33, 3) ∧ decode prog_10_method_45_code 15 = .ok (.aload_n 0, 1) ∧ decode prog_10_method_45_code 16 = .ok (.iconst 0, 1) ∧ decode prog_10_method_45_code 17 = .ok (.putfield 169, 3) := by decide +kernel
theorem e1_Mm_startsText : decode prog_10_method_45_code 20 = .ok (.aload_n 0, 1) ∧ decode prog_10_method_45_code 21 = .ok (.invokevirtual 195, 3) ∧ decode prog_10_method_45_code 24 = .ok (.return_, 1) := by decide +kernel
def T_Mm_startsText : TT := [(0, o_ald 0 1), (1, o_push (.int (iI (0))) 2), (2, o_puti 8 0 5), (5, o_ald 0 6), (6, o_push (.int (iI (0))) 7), (7, o_puti 8 10 10), (10, o_ald 0 11), (11, o_push (.int (iI (-1))) 12), (12, o_puti 8 11 15), (15, o_ald 0 16), (16, o_push (.int (iI (0))) 17), (17, o_puti 8 13 20), (20, o_ald 0 21), (21, o_callV M_Mm_scans 8 1 24), (24, o_vret)]
theorem k_Mm_startsText : ∀ x ∈ T_Mm_startsText, SO M_Mm_startsText x.1 x.2 := by
  obtain ⟨h0, h1, h2, h5, h6, h7, h10, h11, h12, h15, h16, h17⟩ := e0_Mm_startsText
  obtain ⟨h20, h21, h24⟩ := e1_Mm_startsText
  refine ac (s_aldn (M := M_Mm_startsText) (pc := 0) (k := 0) h0) ?_
  refine ac (s_iconst (M := M_Mm_startsText) (pc := 1) h1 rfl) ?_
  refine ac (s_puti (M := M_Mm_startsText) (pc := 2) (T := TX8) (N := 29) (ty0 := tyX8) h2 ⟨rfl, in_X8, by decide, wd1689, tyX8_ok, nmX8, (Or.inl rfl)⟩ rfl) ?_
  refine ac (s_aldn (M := M_Mm_startsText) (pc := 5) (k := 0) h5) ?_
  refine ac (s_iconst (M := M_Mm_startsText) (pc := 6) h6 rfl) ?_
  refine ac (s_puti (M := M_Mm_startsText) (pc := 7) (T := TX8) (N := 29) (ty0 := tyX8) h7 ⟨rfl, in_X8, by decide, wd1699, tyX8_ok, nmX8, (Or.inl rfl)⟩ rfl) ?_
  refine ac (s_aldn (M := M_Mm_startsText) (pc := 10) (k := 0) h10) ?_
  refine ac (s_iconst (M := M_Mm_startsText) (pc := 11) h11 rfl) ?_
  refine ac (s_puti (M := M_Mm_startsText) (pc := 12) (T := TX8) (N := 29) (ty0 := tyX8) h12 ⟨rfl, in_X8, by decide, wd1700, tyX8_ok, nmX8, (Or.inl rfl)⟩ rfl) ?_
  refine ac (s_aldn (M := M_Mm_startsText) (pc := 15) (k := 0) h15) ?_
  refine ac (s_iconst (M := M_Mm_startsText) (pc := 16) h16 rfl) ?_
  refine ac (s_puti (M := M_Mm_startsText) (pc := 17) (T := TX8) (N := 29) (ty0 := tyX8) h17 ⟨rfl, in_X8, by decide, wd1702, tyX8_ok, nmX8, (Or.inl rfl)⟩ rfl) ?_
  refine ac (s_aldn (M := M_Mm_startsText) (pc := 20) (k := 0) h20) ?_
  refine ac (s_callV (M := M_Mm_startsText) (pc := 21) (tz_Mm rfl) h21 q_Mm_scans wd1811 wd1813 wd31 rfl (T := TX8) (N := 29) rfl) ?_
  refine ac (s_vret (M := M_Mm_startsText) (pc := 24) h24 rfl) ?_
  exact ac_nil
theorem e0_Mm_scans : decode prog_10_method_44_code 0 = .ok (.aload_n 0, 1) ∧ decode prog_10_method_44_code 1 = .ok (.aload_n 0, 1) ∧ decode prog_10_method_44_code 2 = .ok (.getfield 169, 3) ∧ decode prog_10_method_44_code 5 = .ok (.invokevirtual 172, 3) ∧ decode prog_10_method_44_code 8 = .ok (.bipush 32, 2) ∧ decode prog_10_method_44_code 10 = .ok (.if_icmp .eq 16, 3) ∧ decode prog_10_method_44_code 13 = .ok (.aload_n 0, 1) ∧ decode prog_10_method_44_code 14 = .ok (.aload_n 0, 1) ∧ decode prog_10_method_44_code 15 = .ok (.getfield 169, 3) ∧ decode prog_10_method_44_code 18 = .ok (.invokevirtual 172, 3) ∧ decode prog_10_method_44_code 21 = .ok (.bipush 10, 2) ∧ decode prog_10_method_44_code 23 = .ok (.if_icmp .ne 16, 3) := by decide +kernel
theorem e1_Mm_scans : decode prog_10_method_44_code 26 = .ok (.aload_n 0, 1) ∧ decode prog_10_method_44_code 27 = .ok (.aload_n 0, 1) ∧ decode prog_10_method_44_code 28 = .ok (.getfield 169, 3) ∧ decode prog_10_method_44_code 31 = .ok (.iconst 1, 1) ∧ decode prog_10_method_44_code 32 = .ok (.iadd, 1) ∧ decode prog_10_method_44_code 33 = .ok (.putfield 169, 3) ∧ decode prog_10_method_44_code 36 = .ok (.goto (-36), 3) ∧ decode prog_10_method_44_code 39 = .ok (.aload_n 0, 1) ∧ decode prog_10_method_44_code 40 = .ok (.aload_n 0, 1) ∧ decode prog_10_method_44_code 41 = .ok (.getfield 169, 3) ∧ decode prog_10_method_44_code 44 = .ok (.putfield 175, 3) ∧ decode prog_10_method_44_code 47 = .ok (.aload_n 0, 1) := by decide +kernel
theorem e2_Mm_scans : decode prog_10_method_44_code 48 = .ok (.aload_n 0, 1) ∧ decode prog_10_method_44_code 49 = .ok (.getfield 175, 3) ∧ decode prog_10_method_44_code 52 = .ok (.invokevirtual 172, 3) ∧ decode prog_10_method_44_code 55 = .ok (.istore_n 1, 1) ∧ decode prog_10_method_44_code 56 = .ok (.iload_n 1, 1) ∧ decode prog_10_method_44_code 57 = .ok (.iconst (-1), 1) ∧ decode prog_10_method_44_code 58 = .ok (.if_icmp .ne 11, 3) ∧ decode prog_10_method_44_code 61 = .ok (.aload_n 0, 1) ∧ decode prog_10_method_44_code 62 = .ok (.iconst 0, 1) ∧ decode prog_10_method_44_code 63 = .ok (.putfield 178, 3) ∧ decode prog_10_method_44_code 66 = .ok (.goto 201, 3) ∧ decode prog_10_method_44_code 69 = .ok (.iload_n 1, 1) := by decide +kernel
theorem e3_Mm_scans : decode prog_10_method_44_code 70 = .ok (.i2l, 1) ∧ decode prog_10_method_44_code 71 = .ok (.ldc2_w 181, 3) ∧ decode prog_10_method_44_code 74 = .ok (.ldc2_w 183, 3) ∧ decode prog_10_method_44_code 77 = .ok (.invokestatic 57, 3) ∧ decode prog_10_method_44_code 80 = .ok (.ifCond .eq 45, 3) ∧ decode prog_10_method_44_code 83 = .ok (.aload_n 0, 1) ∧ decode prog_10_method_44_code 84 = .ok (.aload_n 0, 1) ∧ decode prog_10_method_44_code 85 = .ok (.getfield 169, 3) ∧ decode prog_10_method_44_code 88 = .ok (.invokevirtual 172, 3) ∧ decode prog_10_method_44_code 91 = .ok (.i2l, 1) ∧ decode prog_10_method_44_code 92 = .ok (.ldc2_w 181, 3) ∧ decode prog_10_method_44_code 95 = .ok (.ldc2_w 183, 3) := by decide +kernel
theorem e4_Mm_scans : decode prog_10_method_44_code 98 = .ok (.invokestatic 57, 3) ∧ decode prog_10_method_44_code 101 = .ok (.ifCond .eq 16, 3) ∧ decode prog_10_method_44_code 104 = .ok (.aload_n 0, 1) ∧ decode prog_10_method_44_code 105 = .ok (.aload_n 0, 1) ∧ decode prog_10_method_44_code 106 = .ok (.getfield 169, 3) ∧ decode prog_10_method_44_code 109 = .ok (.iconst 1, 1) ∧ decode prog_10_method_44_code 110 = .ok (.iadd, 1) ∧ decode prog_10_method_44_code 111 = .ok (.putfield 169, 3) ∧ decode prog_10_method_44_code 114 = .ok (.goto (-31), 3) ∧ decode prog_10_method_44_code 117 = .ok (.aload_n 0, 1) ∧ decode prog_10_method_44_code 118 = .ok (.iconst 1, 1) ∧ decode prog_10_method_44_code 119 = .ok (.putfield 178, 3) := by decide +kernel
theorem e5_Mm_scans : decode prog_10_method_44_code 122 = .ok (.goto 145, 3) ∧ decode prog_10_method_44_code 125 = .ok (.iload_n 1, 1) ∧ decode prog_10_method_44_code 126 = .ok (.i2l, 1) ∧ decode prog_10_method_44_code 127 = .ok (.ldc2_w 185, 3) ∧ decode prog_10_method_44_code 130 = .ok (.ldc2_w 187, 3) ∧ decode prog_10_method_44_code 133 = .ok (.invokestatic 57, 3) ∧ decode prog_10_method_44_code 136 = .ok (.ifCond .eq 105, 3) ∧ decode prog_10_method_44_code 139 = .ok (.aload_n 0, 1) ∧ decode prog_10_method_44_code 140 = .ok (.iconst 0, 1) ∧ decode prog_10_method_44_code 141 = .ok (.putfield 189, 3) ∧ decode prog_10_method_44_code 144 = .ok (.aload_n 0, 1) ∧ decode prog_10_method_44_code 145 = .ok (.aload_n 0, 1) := by decide +kernel
theorem e6_Mm_scans : decode prog_10_method_44_code 146 = .ok (.getfield 169, 3) ∧ decode prog_10_method_44_code 149 = .ok (.invokevirtual 172, 3) ∧ decode prog_10_method_44_code 152 = .ok (.i2l, 1) ∧ decode prog_10_method_44_code 153 = .ok (.ldc2_w 185, 3) ∧ decode prog_10_method_44_code 156 = .ok (.ldc2_w 187, 3) ∧ decode prog_10_method_44_code 159 = .ok (.invokestatic 57, 3) ∧ decode prog_10_method_44_code 162 = .ok (.ifCond .eq 53, 3) ∧ decode prog_10_method_44_code 165 = .ok (.aload_n 0, 1) ∧ decode prog_10_method_44_code 166 = .ok (.getfield 169, 3) ∧ decode prog_10_method_44_code 169 = .ok (.aload_n 0, 1) ∧ decode prog_10_method_44_code 170 = .ok (.getfield 175, 3) ∧ decode prog_10_method_44_code 173 = .ok (.isub, 1) := by decide +kernel
theorem e7_Mm_scans : decode prog_10_method_44_code 174 = .ok (.bipush 9, 2) ∧ decode prog_10_method_44_code 176 = .ok (.if_icmp .ge 26, 3) ∧ decode prog_10_method_44_code 179 = .ok (.aload_n 0, 1) ∧ decode prog_10_method_44_code 180 = .ok (.bipush 10, 2) ∧ decode prog_10_method_44_code 182 = .ok (.aload_n 0, 1) ∧ decode prog_10_method_44_code 183 = .ok (.getfield 189, 3) ∧ decode prog_10_method_44_code 186 = .ok (.imul, 1) ∧ decode prog_10_method_44_code 187 = .ok (.aload_n 0, 1) ∧ decode prog_10_method_44_code 188 = .ok (.aload_n 0, 1) ∧ decode prog_10_method_44_code 189 = .ok (.getfield 169, 3) ∧ decode prog_10_method_44_code 192 = .ok (.invokevirtual 172, 3) ∧ decode prog_10_method_44_code 195 = .ok (.iadd, 1) := by decide +kernel
theorem e8_Mm_scans : decode prog_10_method_44_code 196 = .ok (.bipush 48, 2) ∧ decode prog_10_method_44_code 198 = .ok (.isub, 1) ∧ decode prog_10_method_44_code 199 = .ok (.putfield 189, 3) ∧ decode prog_10_method_44_code 202 = .ok (.aload_n 0, 1) ∧ decode prog_10_method_44_code 203 = .ok (.aload_n 0, 1) ∧ decode prog_10_method_44_code 204 = .ok (.getfield 169, 3) ∧ decode prog_10_method_44_code 207 = .ok (.iconst 1, 1) ∧ decode prog_10_method_44_code 208 = .ok (.iadd, 1) ∧ decode prog_10_method_44_code 209 = .ok (.putfield 169, 3) ∧ decode prog_10_method_44_code 212 = .ok (.goto (-68), 3) ∧ decode prog_10_method_44_code 215 = .ok (.aload_n 0, 1) ∧ decode prog_10_method_44_code 216 = .ok (.aload_n 0, 1) := by decide +kernel
theorem e9_Mm_scans : decode prog_10_method_44_code 217 = .ok (.getfield 169, 3) ∧ decode prog_10_method_44_code 220 = .ok (.aload_n 0, 1) ∧ decode prog_10_method_44_code 221 = .ok (.getfield 175, 3) ∧ decode prog_10_method_44_code 224 = .ok (.isub, 1) ∧ decode prog_10_method_44_code 225 = .ok (.bipush 9, 2) ∧ decode prog_10_method_44_code 227 = .ok (.if_icmp .le 7, 3) ∧ decode prog_10_method_44_code 230 = .ok (.iconst 4, 1) ∧ decode prog_10_method_44_code 231 = .ok (.goto 4, 3) ∧ decode prog_10_method_44_code 234 = .ok (.iconst 2, 1) ∧ decode prog_10_method_44_code 235 = .ok (.putfield 178, 3) ∧ decode prog_10_method_44_code 238 = .ok (.goto 29, 3) ∧ decode prog_10_method_44_code 241 = .ok (.aload_n 0, 1) := by decide +kernel
theorem e10_Mm_scans : decode prog_10_method_44_code 242 = .ok (.iload_n 1, 1) ∧ decode prog_10_method_44_code 243 = .ok (.invokestatic 192, 3) ∧ decode prog_10_method_44_code 246 = .ok (.ifCond .eq 7, 3) ∧ decode prog_10_method_44_code 249 = .ok (.iconst 3, 1) ∧ decode prog_10_method_44_code 250 = .ok (.goto 4, 3) ∧ decode prog_10_method_44_code 253 = .ok (.iconst 4, 1) ∧ decode prog_10_method_44_code 254 = .ok (.putfield 178, 3) ∧ decode prog_10_method_44_code 257 = .ok (.aload_n 0, 1) ∧ decode prog_10_method_44_code 258 = .ok (.aload_n 0, 1) ∧ decode prog_10_method_44_code 259 = .ok (.getfield 169, 3) ∧ decode prog_10_method_44_code 262 = .ok (.iconst 1, 1) ∧ decode prog_10_method_44_code 263 = .ok (.iadd, 1) := by decide +kernel
theorem e11_Mm_scans : decode prog_10_method_44_code 264 = .ok (.putfield 169, 3) ∧ decode prog_10_method_44_code 267 = .ok (.return_, 1) := by decide +kernel
def T_Mm_scans : TT := [(0, o_ald 0 1), (1, o_ald 0 2), (2, o_get 8 13 5), (5, o_callV M_Mm_byteAt 8 2 8), (8, o_push (.int (iI (32))) 10), (10, o_icmp_eq 26 13), (13, o_ald 0 14), (14, o_ald 0 15), (15, o_get 8 13 18), (18, o_callV M_Mm_byteAt 8 2 21), (21, o_push (.int (iI (10))) 23), (23, o_icmp_ne 39 26), (26, o_ald 0 27), (27, o_ald 0 28), (28, o_get 8 13 31), (31, o_push (.int (iI (1))) 32), (32, o_iadd 33), (33, o_puti 8 13 36), (36, o_goto 0), (39, o_ald 0 40), (40, o_ald 0 41), (41, o_get 8 13 44), (44, o_puti 8 12 47), (47, o_ald 0 48), (48, o_ald 0 49), (49, o_get 8 12 52), (52, o_callV M_Mm_byteAt 8 2 55), (55, o_ist 1 56), (56, o_ild 1 57), (57, o_push (.int (iI (-1))) 58), (58, o_icmp_ne 69 61), (61, o_ald 0 62), (62, o_push (.int (iI (0))) 63), (63, o_puti 8 14 66), (66, o_goto 267), (69, o_ild 1 70), (70, o_i2l 71), (71, o_push (.long (lI (97))) 74), (74, o_push (.long (lI (122))) 77), (77, o_call M_Mm_isIn 3 80), (80, o_if_eq 125 83), (83, o_ald 0 84), (84, o_ald 0 85), (85, o_get 8 13 88), (88, o_callV M_Mm_byteAt 8 2 91), (91, o_i2l 92), (92, o_push (.long (lI (97))) 95), (95, o_push (.long (lI (122))) 98), (98, o_call M_Mm_isIn 3 101), (101, o_if_eq 117 104), (104, o_ald 0 105), (105, o_ald 0 106), (106, o_get 8 13 109), (109, o_push (.int (iI (1))) 110), (110, o_iadd 111), (111, o_puti 8 13 114), (114, o_goto 83), (117, o_ald 0 118), (118, o_push (.int (iI (1))) 119), (119, o_puti 8 14 122), (122, o_goto 267), (125, o_ild 1 126), (126, o_i2l 127), (127, o_push (.long (lI (48))) 130), (130, o_push (.long (lI (57))) 133), (133, o_call M_Mm_isIn 3 136), (136, o_if_eq 241 139), (139, o_ald 0 140), (140, o_push (.int (iI (0))) 141), (141, o_puti 8 15 144), (144, o_ald 0 145), (145, o_ald 0 146), (146, o_get 8 13 149), (149, o_callV M_Mm_byteAt 8 2 152), (152, o_i2l 153), (153, o_push (.long (lI (48))) 156), (156, o_push (.long (lI (57))) 159), (159, o_call M_Mm_isIn 3 162), (162, o_if_eq 215 165), (165, o_ald 0 166), (166, o_get 8 13 169), (169, o_ald 0 170), (170, o_get 8 12 173), (173, o_isub 174), (174, o_push (.int (iI (9))) 176), (176, o_icmp_ge 202 179), (179, o_ald 0 180), (180, o_push (.int (iI (10))) 182), (182, o_ald 0 183), (183, o_get 8 15 186), (186, o_imul 187), (187, o_ald 0 188), (188, o_ald 0 189), (189, o_get 8 13 192), (192, o_callV M_Mm_byteAt 8 2 195), (195, o_iadd 196), (196, o_push (.int (iI (48))) 198), (198, o_isub 199), (199, o_puti 8 15 202), (202, o_ald 0 203), (203, o_ald 0 204), (204, o_get 8 13 207), (207, o_push (.int (iI (1))) 208), (208, o_iadd 209), (209, o_puti 8 13 212), (212, o_goto 144), (215, o_ald 0 216), (216, o_ald 0 217), (217, o_get 8 13 220), (220, o_ald 0 221), (221, o_get 8 12 224), (224, o_isub 225), (225, o_push (.int (iI (9))) 227), (227, o_icmp_le 234 230), (230, o_push (.int (iI (4))) 231), (231, o_goto 235), (234, o_push (.int (iI (2))) 235), (235, o_puti 8 14 238), (238, o_goto 267), (241, o_ald 0 242), (242, o_ild 1 243), (243, o_call M_Mm_isSignByte 1 246), (246, o_if_eq 253 249), (249, o_push (.int (iI (3))) 250), (250, o_goto 254), (253, o_push (.int (iI (4))) 254), (254, o_puti 8 14 257), (257, o_ald 0 258), (258, o_ald 0 259), (259, o_get 8 13 262), (262, o_push (.int (iI (1))) 263), (263, o_iadd 264), (264, o_puti 8 13 267), (267, o_vret)]
theorem k_Mm_scans : ∀ x ∈ T_Mm_scans, SO M_Mm_scans x.1 x.2 := by
  obtain ⟨h0, h1, h2, h5, h8, h10, h13, h14, h15, h18, h21, h23⟩ := e0_Mm_scans
  obtain ⟨h26, h27, h28, h31, h32, h33, h36, h39, h40, h41, h44, h47⟩ := e1_Mm_scans
  obtain ⟨h48, h49, h52, h55, h56, h57, h58, h61, h62, h63, h66, h69⟩ := e2_Mm_scans
  obtain ⟨h70, h71, h74, h77, h80, h83, h84, h85, h88, h91, h92, h95⟩ := e3_Mm_scans
  obtain ⟨h98, h101, h104, h105, h106, h109, h110, h111, h114, h117, h118, h119⟩ := e4_Mm_scans
  obtain ⟨h122, h125, h126, h127, h130, h133, h136, h139, h140, h141, h144, h145⟩ := e5_Mm_scans
  obtain ⟨h146, h149, h152, h153, h156, h159, h162, h165, h166, h169, h170, h173⟩ := e6_Mm_scans
  obtain ⟨h174, h176, h179, h180, h182, h183, h186, h187, h188, h189, h192, h195⟩ := e7_Mm_scans
  obtain ⟨h196, h198, h199, h202, h203, h204, h207, h208, h209, h212, h215, h216⟩ := e8_Mm_scans
  obtain ⟨h217, h220, h221, h224, h225, h227, h230, h231, h234, h235, h238, h241⟩ := e9_Mm_scans
  obtain ⟨h242, h243, h246, h249, h250, h253, h254, h257, h258, h259, h262, h263⟩ := e10_Mm_scans
  obtain ⟨h264, h267⟩ := e11_Mm_scans
  refine ac (s_aldn (M := M_Mm_scans) (pc := 0) (k := 0) h0) ?_
  refine ac (s_aldn (M := M_Mm_scans) (pc := 1) (k := 0) h1) ?_
  refine ac (s_get (M := M_Mm_scans) (pc := 2) (T := TX8) (N := 29) h2 rfl in_X8 (by decide) wd1702) ?_
  refine ac (s_callV (M := M_Mm_scans) (pc := 5) (tz_Mm rfl) h5 q_Mm_byteAt wd1815 wd1817 wd32 rfl (T := TX8) (N := 29) rfl) ?_
  refine ac (s_bipush (M := M_Mm_scans) (pc := 8) h8 (by decide)) ?_
  refine ac (s_icmp_eq (M := M_Mm_scans) (pc := 10) h10 (by decide)) ?_
  refine ac (s_aldn (M := M_Mm_scans) (pc := 13) (k := 0) h13) ?_
  refine ac (s_aldn (M := M_Mm_scans) (pc := 14) (k := 0) h14) ?_
  refine ac (s_get (M := M_Mm_scans) (pc := 15) (T := TX8) (N := 29) h15 rfl in_X8 (by decide) wd1702) ?_
  refine ac (s_callV (M := M_Mm_scans) (pc := 18) (tz_Mm rfl) h18 q_Mm_byteAt wd1815 wd1817 wd32 rfl (T := TX8) (N := 29) rfl) ?_
  refine ac (s_bipush (M := M_Mm_scans) (pc := 21) h21 (by decide)) ?_
  refine ac (s_icmp_ne (M := M_Mm_scans) (pc := 23) h23 (by decide)) ?_
  refine ac (s_aldn (M := M_Mm_scans) (pc := 26) (k := 0) h26) ?_
  refine ac (s_aldn (M := M_Mm_scans) (pc := 27) (k := 0) h27) ?_
  refine ac (s_get (M := M_Mm_scans) (pc := 28) (T := TX8) (N := 29) h28 rfl in_X8 (by decide) wd1702) ?_
  refine ac (s_iconst (M := M_Mm_scans) (pc := 31) h31 rfl) ?_
  refine ac (s_iadd (M := M_Mm_scans) (pc := 32) h32) ?_
  refine ac (s_puti (M := M_Mm_scans) (pc := 33) (T := TX8) (N := 29) (ty0 := tyX8) h33 ⟨rfl, in_X8, by decide, wd1702, tyX8_ok, nmX8, (Or.inl rfl)⟩ rfl) ?_
  refine ac (s_goto (M := M_Mm_scans) (pc := 36) h36 (by decide)) ?_
  refine ac (s_aldn (M := M_Mm_scans) (pc := 39) (k := 0) h39) ?_
  refine ac (s_aldn (M := M_Mm_scans) (pc := 40) (k := 0) h40) ?_
  refine ac (s_get (M := M_Mm_scans) (pc := 41) (T := TX8) (N := 29) h41 rfl in_X8 (by decide) wd1702) ?_
  refine ac (s_puti (M := M_Mm_scans) (pc := 44) (T := TX8) (N := 29) (ty0 := tyX8) h44 ⟨rfl, in_X8, by decide, wd1701, tyX8_ok, nmX8, (Or.inl rfl)⟩ rfl) ?_
  refine ac (s_aldn (M := M_Mm_scans) (pc := 47) (k := 0) h47) ?_
  refine ac (s_aldn (M := M_Mm_scans) (pc := 48) (k := 0) h48) ?_
  refine ac (s_get (M := M_Mm_scans) (pc := 49) (T := TX8) (N := 29) h49 rfl in_X8 (by decide) wd1701) ?_
  refine ac (s_callV (M := M_Mm_scans) (pc := 52) (tz_Mm rfl) h52 q_Mm_byteAt wd1815 wd1817 wd32 rfl (T := TX8) (N := 29) rfl) ?_
  refine ac (s_istn (M := M_Mm_scans) (pc := 55) (k := 1) h55 (by decide)) ?_
  refine ac (s_ildn (M := M_Mm_scans) (pc := 56) (k := 1) h56) ?_
  refine ac (s_iconst (M := M_Mm_scans) (pc := 57) h57 rfl) ?_
  refine ac (s_icmp_ne (M := M_Mm_scans) (pc := 58) h58 (by decide)) ?_
  refine ac (s_aldn (M := M_Mm_scans) (pc := 61) (k := 0) h61) ?_
  refine ac (s_iconst (M := M_Mm_scans) (pc := 62) h62 rfl) ?_
  refine ac (s_puti (M := M_Mm_scans) (pc := 63) (T := TX8) (N := 29) (ty0 := tyX8) h63 ⟨rfl, in_X8, by decide, wd1703, tyX8_ok, nmX8, (Or.inl rfl)⟩ rfl) ?_
  refine ac (s_goto (M := M_Mm_scans) (pc := 66) h66 (by decide)) ?_
  refine ac (s_ildn (M := M_Mm_scans) (pc := 69) (k := 1) h69) ?_
  refine ac (s_i2l (M := M_Mm_scans) (pc := 70) h70) ?_
  refine ac (s_ldc2 (M := M_Mm_scans) (pc := 71) h71 wd1819) ?_
  refine ac (s_ldc2 (M := M_Mm_scans) (pc := 74) h74 wd1820) ?_
  refine ac (s_callS (M := M_Mm_scans) (pc := 77) (tz_Mm rfl) h77 q_Mm_isIn wd1789 wd1790) ?_
  refine ac (s_if_eq (M := M_Mm_scans) (pc := 80) h80 (by decide)) ?_
  refine ac (s_aldn (M := M_Mm_scans) (pc := 83) (k := 0) h83) ?_
  refine ac (s_aldn (M := M_Mm_scans) (pc := 84) (k := 0) h84) ?_
  refine ac (s_get (M := M_Mm_scans) (pc := 85) (T := TX8) (N := 29) h85 rfl in_X8 (by decide) wd1702) ?_
  refine ac (s_callV (M := M_Mm_scans) (pc := 88) (tz_Mm rfl) h88 q_Mm_byteAt wd1815 wd1817 wd32 rfl (T := TX8) (N := 29) rfl) ?_
  refine ac (s_i2l (M := M_Mm_scans) (pc := 91) h91) ?_
  refine ac (s_ldc2 (M := M_Mm_scans) (pc := 92) h92 wd1819) ?_
  refine ac (s_ldc2 (M := M_Mm_scans) (pc := 95) h95 wd1820) ?_
  refine ac (s_callS (M := M_Mm_scans) (pc := 98) (tz_Mm rfl) h98 q_Mm_isIn wd1789 wd1790) ?_
  refine ac (s_if_eq (M := M_Mm_scans) (pc := 101) h101 (by decide)) ?_
  refine ac (s_aldn (M := M_Mm_scans) (pc := 104) (k := 0) h104) ?_
  refine ac (s_aldn (M := M_Mm_scans) (pc := 105) (k := 0) h105) ?_
  refine ac (s_get (M := M_Mm_scans) (pc := 106) (T := TX8) (N := 29) h106 rfl in_X8 (by decide) wd1702) ?_
  refine ac (s_iconst (M := M_Mm_scans) (pc := 109) h109 rfl) ?_
  refine ac (s_iadd (M := M_Mm_scans) (pc := 110) h110) ?_
  refine ac (s_puti (M := M_Mm_scans) (pc := 111) (T := TX8) (N := 29) (ty0 := tyX8) h111 ⟨rfl, in_X8, by decide, wd1702, tyX8_ok, nmX8, (Or.inl rfl)⟩ rfl) ?_
  refine ac (s_goto (M := M_Mm_scans) (pc := 114) h114 (by decide)) ?_
  refine ac (s_aldn (M := M_Mm_scans) (pc := 117) (k := 0) h117) ?_
  refine ac (s_iconst (M := M_Mm_scans) (pc := 118) h118 rfl) ?_
  refine ac (s_puti (M := M_Mm_scans) (pc := 119) (T := TX8) (N := 29) (ty0 := tyX8) h119 ⟨rfl, in_X8, by decide, wd1703, tyX8_ok, nmX8, (Or.inl rfl)⟩ rfl) ?_
  refine ac (s_goto (M := M_Mm_scans) (pc := 122) h122 (by decide)) ?_
  refine ac (s_ildn (M := M_Mm_scans) (pc := 125) (k := 1) h125) ?_
  refine ac (s_i2l (M := M_Mm_scans) (pc := 126) h126) ?_
  refine ac (s_ldc2 (M := M_Mm_scans) (pc := 127) h127 wd1821) ?_
  refine ac (s_ldc2 (M := M_Mm_scans) (pc := 130) h130 wd1822) ?_
  refine ac (s_callS (M := M_Mm_scans) (pc := 133) (tz_Mm rfl) h133 q_Mm_isIn wd1789 wd1790) ?_
  refine ac (s_if_eq (M := M_Mm_scans) (pc := 136) h136 (by decide)) ?_
  refine ac (s_aldn (M := M_Mm_scans) (pc := 139) (k := 0) h139) ?_
  refine ac (s_iconst (M := M_Mm_scans) (pc := 140) h140 rfl) ?_
  refine ac (s_puti (M := M_Mm_scans) (pc := 141) (T := TX8) (N := 29) (ty0 := tyX8) h141 ⟨rfl, in_X8, by decide, wd1704, tyX8_ok, nmX8, (Or.inl rfl)⟩ rfl) ?_
  refine ac (s_aldn (M := M_Mm_scans) (pc := 144) (k := 0) h144) ?_
  refine ac (s_aldn (M := M_Mm_scans) (pc := 145) (k := 0) h145) ?_
  refine ac (s_get (M := M_Mm_scans) (pc := 146) (T := TX8) (N := 29) h146 rfl in_X8 (by decide) wd1702) ?_
  refine ac (s_callV (M := M_Mm_scans) (pc := 149) (tz_Mm rfl) h149 q_Mm_byteAt wd1815 wd1817 wd32 rfl (T := TX8) (N := 29) rfl) ?_
  refine ac (s_i2l (M := M_Mm_scans) (pc := 152) h152) ?_
  refine ac (s_ldc2 (M := M_Mm_scans) (pc := 153) h153 wd1821) ?_
  refine ac (s_ldc2 (M := M_Mm_scans) (pc := 156) h156 wd1822) ?_
  refine ac (s_callS (M := M_Mm_scans) (pc := 159) (tz_Mm rfl) h159 q_Mm_isIn wd1789 wd1790) ?_
  refine ac (s_if_eq (M := M_Mm_scans) (pc := 162) h162 (by decide)) ?_
  refine ac (s_aldn (M := M_Mm_scans) (pc := 165) (k := 0) h165) ?_
  refine ac (s_get (M := M_Mm_scans) (pc := 166) (T := TX8) (N := 29) h166 rfl in_X8 (by decide) wd1702) ?_
  refine ac (s_aldn (M := M_Mm_scans) (pc := 169) (k := 0) h169) ?_
  refine ac (s_get (M := M_Mm_scans) (pc := 170) (T := TX8) (N := 29) h170 rfl in_X8 (by decide) wd1701) ?_
  refine ac (s_isub (M := M_Mm_scans) (pc := 173) h173) ?_
  refine ac (s_bipush (M := M_Mm_scans) (pc := 174) h174 (by decide)) ?_
  refine ac (s_icmp_ge (M := M_Mm_scans) (pc := 176) h176 (by decide)) ?_
  refine ac (s_aldn (M := M_Mm_scans) (pc := 179) (k := 0) h179) ?_
  refine ac (s_bipush (M := M_Mm_scans) (pc := 180) h180 (by decide)) ?_
  refine ac (s_aldn (M := M_Mm_scans) (pc := 182) (k := 0) h182) ?_
  refine ac (s_get (M := M_Mm_scans) (pc := 183) (T := TX8) (N := 29) h183 rfl in_X8 (by decide) wd1704) ?_
  refine ac (s_imul (M := M_Mm_scans) (pc := 186) h186) ?_
  refine ac (s_aldn (M := M_Mm_scans) (pc := 187) (k := 0) h187) ?_
  refine ac (s_aldn (M := M_Mm_scans) (pc := 188) (k := 0) h188) ?_
  refine ac (s_get (M := M_Mm_scans) (pc := 189) (T := TX8) (N := 29) h189 rfl in_X8 (by decide) wd1702) ?_
  refine ac (s_callV (M := M_Mm_scans) (pc := 192) (tz_Mm rfl) h192 q_Mm_byteAt wd1815 wd1817 wd32 rfl (T := TX8) (N := 29) rfl) ?_
  refine ac (s_iadd (M := M_Mm_scans) (pc := 195) h195) ?_
  refine ac (s_bipush (M := M_Mm_scans) (pc := 196) h196 (by decide)) ?_
  refine ac (s_isub (M := M_Mm_scans) (pc := 198) h198) ?_
  refine ac (s_puti (M := M_Mm_scans) (pc := 199) (T := TX8) (N := 29) (ty0 := tyX8) h199 ⟨rfl, in_X8, by decide, wd1704, tyX8_ok, nmX8, (Or.inl rfl)⟩ rfl) ?_
  refine ac (s_aldn (M := M_Mm_scans) (pc := 202) (k := 0) h202) ?_
  refine ac (s_aldn (M := M_Mm_scans) (pc := 203) (k := 0) h203) ?_
  refine ac (s_get (M := M_Mm_scans) (pc := 204) (T := TX8) (N := 29) h204 rfl in_X8 (by decide) wd1702) ?_
  refine ac (s_iconst (M := M_Mm_scans) (pc := 207) h207 rfl) ?_
  refine ac (s_iadd (M := M_Mm_scans) (pc := 208) h208) ?_
  refine ac (s_puti (M := M_Mm_scans) (pc := 209) (T := TX8) (N := 29) (ty0 := tyX8) h209 ⟨rfl, in_X8, by decide, wd1702, tyX8_ok, nmX8, (Or.inl rfl)⟩ rfl) ?_
  refine ac (s_goto (M := M_Mm_scans) (pc := 212) h212 (by decide)) ?_
  refine ac (s_aldn (M := M_Mm_scans) (pc := 215) (k := 0) h215) ?_
  refine ac (s_aldn (M := M_Mm_scans) (pc := 216) (k := 0) h216) ?_
  refine ac (s_get (M := M_Mm_scans) (pc := 217) (T := TX8) (N := 29) h217 rfl in_X8 (by decide) wd1702) ?_
  refine ac (s_aldn (M := M_Mm_scans) (pc := 220) (k := 0) h220) ?_
  refine ac (s_get (M := M_Mm_scans) (pc := 221) (T := TX8) (N := 29) h221 rfl in_X8 (by decide) wd1701) ?_
  refine ac (s_isub (M := M_Mm_scans) (pc := 224) h224) ?_
  refine ac (s_bipush (M := M_Mm_scans) (pc := 225) h225 (by decide)) ?_
  refine ac (s_icmp_le (M := M_Mm_scans) (pc := 227) h227 (by decide)) ?_
  refine ac (s_iconst (M := M_Mm_scans) (pc := 230) h230 rfl) ?_
  refine ac (s_goto (M := M_Mm_scans) (pc := 231) h231 (by decide)) ?_
  refine ac (s_iconst (M := M_Mm_scans) (pc := 234) h234 rfl) ?_
  refine ac (s_puti (M := M_Mm_scans) (pc := 235) (T := TX8) (N := 29) (ty0 := tyX8) h235 ⟨rfl, in_X8, by decide, wd1703, tyX8_ok, nmX8, (Or.inl rfl)⟩ rfl) ?_
  refine ac (s_goto (M := M_Mm_scans) (pc := 238) h238 (by decide)) ?_
  refine ac (s_aldn (M := M_Mm_scans) (pc := 241) (k := 0) h241) ?_
  refine ac (s_ildn (M := M_Mm_scans) (pc := 242) (k := 1) h242) ?_
  refine ac (s_callS (M := M_Mm_scans) (pc := 243) (tz_Mm rfl) h243 q_Mm_isSignByte wd1823 wd1824) ?_
  refine ac (s_if_eq (M := M_Mm_scans) (pc := 246) h246 (by decide)) ?_
  refine ac (s_iconst (M := M_Mm_scans) (pc := 249) h249 rfl) ?_
  refine ac (s_goto (M := M_Mm_scans) (pc := 250) h250 (by decide)) ?_
  refine ac (s_iconst (M := M_Mm_scans) (pc := 253) h253 rfl) ?_
  refine ac (s_puti (M := M_Mm_scans) (pc := 254) (T := TX8) (N := 29) (ty0 := tyX8) h254 ⟨rfl, in_X8, by decide, wd1703, tyX8_ok, nmX8, (Or.inl rfl)⟩ rfl) ?_
  refine ac (s_aldn (M := M_Mm_scans) (pc := 257) (k := 0) h257) ?_
  refine ac (s_aldn (M := M_Mm_scans) (pc := 258) (k := 0) h258) ?_
  refine ac (s_get (M := M_Mm_scans) (pc := 259) (T := TX8) (N := 29) h259 rfl in_X8 (by decide) wd1702) ?_
  refine ac (s_iconst (M := M_Mm_scans) (pc := 262) h262 rfl) ?_
  refine ac (s_iadd (M := M_Mm_scans) (pc := 263) h263) ?_
  refine ac (s_puti (M := M_Mm_scans) (pc := 264) (T := TX8) (N := 29) (ty0 := tyX8) h264 ⟨rfl, in_X8, by decide, wd1702, tyX8_ok, nmX8, (Or.inl rfl)⟩ rfl) ?_
  refine ac (s_vret (M := M_Mm_scans) (pc := 267) h267 rfl) ?_
  exact ac_nil
theorem e0_Mm_byteAt : decode prog_10_method_42_code 0 = .ok (.iload_n 1, 1) ∧ decode prog_10_method_42_code 1 = .ok (.aload_n 0, 1) ∧ decode prog_10_method_42_code 2 = .ok (.getfield 160, 3) ∧ decode prog_10_method_42_code 5 = .ok (.if_icmp .ge 16, 3) ∧ decode prog_10_method_42_code 8 = .ok (.aload_n 0, 1) ∧ decode prog_10_method_42_code 9 = .ok (.getfield 29, 3) ∧ decode prog_10_method_42_code 12 = .ok (.iload_n 1, 1) ∧ decode prog_10_method_42_code 13 = .ok (.baload, 1) ∧ decode prog_10_method_42_code 14 = .ok (.sipush 255, 3) ∧ decode prog_10_method_42_code 17 = .ok (.iand, 1) ∧ decode prog_10_method_42_code 18 = .ok (.goto 4, 3) ∧ decode prog_10_method_42_code 21 = .ok (.iconst (-1), 1) := by decide +kernel
theorem e1_Mm_byteAt : decode prog_10_method_42_code 22 = .ok (.ireturn, 1) := by decide +kernel
def T_Mm_byteAt : TT := [(0, o_ild 1 1), (1, o_ald 0 2), (2, o_get 8 9 5), (5, o_icmp_ge 21 8), (8, o_ald 0 9), (9, o_get 8 8 12), (12, o_ild 1 13), (13, o_bald 14), (14, o_push (.int (iI (255))) 17), (17, o_iand 18), (18, o_goto 22), (21, o_push (.int (iI (-1))) 22), (22, o_iret)]
theorem k_Mm_byteAt : ∀ x ∈ T_Mm_byteAt, SO M_Mm_byteAt x.1 x.2 := by
  obtain ⟨h0, h1, h2, h5, h8, h9, h12, h13, h14, h17, h18, h21⟩ := e0_Mm_byteAt
  have h22 := e1_Mm_byteAt
  refine ac (s_ildn (M := M_Mm_byteAt) (pc := 0) (k := 1) h0) ?_
  refine ac (s_aldn (M := M_Mm_byteAt) (pc := 1) (k := 0) h1) ?_
  refine ac (s_get (M := M_Mm_byteAt) (pc := 2) (T := TX8) (N := 29) h2 rfl in_X8 (by decide) wd1698) ?_
  refine ac (s_icmp_ge (M := M_Mm_byteAt) (pc := 5) h5 (by decide)) ?_
  refine ac (s_aldn (M := M_Mm_byteAt) (pc := 8) (k := 0) h8) ?_
  refine ac (s_get (M := M_Mm_byteAt) (pc := 9) (T := TX8) (N := 29) h9 rfl in_X8 (by decide) wd1697) ?_
  refine ac (s_ildn (M := M_Mm_byteAt) (pc := 12) (k := 1) h12) ?_
  refine ac (s_bald (M := M_Mm_byteAt) (pc := 13) h13) ?_
  refine ac (s_sipush (M := M_Mm_byteAt) (pc := 14) h14 (by decide)) ?_
  refine ac (s_iand (M := M_Mm_byteAt) (pc := 17) h17) ?_
  refine ac (s_goto (M := M_Mm_byteAt) (pc := 18) h18 (by decide)) ?_
  refine ac (s_iconst (M := M_Mm_byteAt) (pc := 21) h21 rfl) ?_
  refine ac (s_iret (M := M_Mm_byteAt) (pc := 22) h22 rfl) ?_
  exact ac_nil
theorem e0_Mm_isSignByte : decode prog_10_method_43_code 0 = .ok (.iload_n 0, 1) ∧ decode prog_10_method_43_code 1 = .ok (.bipush 59, 2) ∧ decode prog_10_method_43_code 3 = .ok (.if_icmp .eq 51, 3) ∧ decode prog_10_method_43_code 6 = .ok (.iload_n 0, 1) ∧ decode prog_10_method_43_code 7 = .ok (.bipush 61, 2) ∧ decode prog_10_method_43_code 9 = .ok (.if_icmp .eq 45, 3) ∧ decode prog_10_method_43_code 12 = .ok (.iload_n 0, 1) ∧ decode prog_10_method_43_code 13 = .ok (.bipush 43, 2) ∧ decode prog_10_method_43_code 15 = .ok (.if_icmp .eq 39, 3) ∧ decode prog_10_method_43_code 18 = .ok (.iload_n 0, 1) ∧ decode prog_10_method_43_code 19 = .ok (.bipush 45, 2) ∧ decode prog_10_method_43_code 21 = .ok (.if_icmp .eq 33, 3) := by decide +kernel
theorem e1_Mm_isSignByte : decode prog_10_method_43_code 24 = .ok (.iload_n 0, 1) ∧ decode prog_10_method_43_code 25 = .ok (.bipush 42, 2) ∧ decode prog_10_method_43_code 27 = .ok (.if_icmp .eq 27, 3) ∧ decode prog_10_method_43_code 30 = .ok (.iload_n 0, 1) ∧ decode prog_10_method_43_code 31 = .ok (.bipush 47, 2) ∧ decode prog_10_method_43_code 33 = .ok (.if_icmp .eq 21, 3) ∧ decode prog_10_method_43_code 36 = .ok (.iload_n 0, 1) ∧ decode prog_10_method_43_code 37 = .ok (.bipush 37, 2) ∧ decode prog_10_method_43_code 39 = .ok (.if_icmp .eq 15, 3) ∧ decode prog_10_method_43_code 42 = .ok (.iload_n 0, 1) ∧ decode prog_10_method_43_code 43 = .ok (.bipush 40, 2) ∧ decode prog_10_method_43_code 45 = .ok (.if_icmp .eq 9, 3) := by decide +kernel
theorem e2_Mm_isSignByte : decode prog_10_method_43_code 48 = .ok (.iload_n 0, 1) ∧ decode prog_10_method_43_code 49 = .ok (.bipush 41, 2) ∧ decode prog_10_method_43_code 51 = .ok (.if_icmp .ne 7, 3) ∧ decode prog_10_method_43_code 54 = .ok (.iconst 1, 1) ∧ decode prog_10_method_43_code 55 = .ok (.goto 4, 3) ∧ decode prog_10_method_43_code 58 = .ok (.iconst 0, 1) ∧ decode prog_10_method_43_code 59 = .ok (.ireturn, 1) := by decide +kernel
def T_Mm_isSignByte : TT := [(0, o_ild 0 1), (1, o_push (.int (iI (59))) 3), (3, o_icmp_eq 54 6), (6, o_ild 0 7), (7, o_push (.int (iI (61))) 9), (9, o_icmp_eq 54 12), (12, o_ild 0 13), (13, o_push (.int (iI (43))) 15), (15, o_icmp_eq 54 18), (18, o_ild 0 19), (19, o_push (.int (iI (45))) 21), (21, o_icmp_eq 54 24), (24, o_ild 0 25), (25, o_push (.int (iI (42))) 27), (27, o_icmp_eq 54 30), (30, o_ild 0 31), (31, o_push (.int (iI (47))) 33), (33, o_icmp_eq 54 36), (36, o_ild 0 37), (37, o_push (.int (iI (37))) 39), (39, o_icmp_eq 54 42), (42, o_ild 0 43), (43, o_push (.int (iI (40))) 45), (45, o_icmp_eq 54 48), (48, o_ild 0 49), (49, o_push (.int (iI (41))) 51), (51, o_icmp_ne 58 54), (54, o_push (.int (iI (1))) 55), (55, o_goto 59), (58, o_push (.int (iI (0))) 59), (59, o_zret)]
theorem k_Mm_isSignByte : ∀ x ∈ T_Mm_isSignByte, SO M_Mm_isSignByte x.1 x.2 := by
  obtain ⟨h0, h1, h3, h6, h7, h9, h12, h13, h15, h18, h19, h21⟩ := e0_Mm_isSignByte
  obtain ⟨h24, h25, h27, h30, h31, h33, h36, h37, h39, h42, h43, h45⟩ := e1_Mm_isSignByte
  obtain ⟨h48, h49, h51, h54, h55, h58, h59⟩ := e2_Mm_isSignByte
  refine ac (s_ildn (M := M_Mm_isSignByte) (pc := 0) (k := 0) h0) ?_
  refine ac (s_bipush (M := M_Mm_isSignByte) (pc := 1) h1 (by decide)) ?_
  refine ac (s_icmp_eq (M := M_Mm_isSignByte) (pc := 3) h3 (by decide)) ?_
  refine ac (s_ildn (M := M_Mm_isSignByte) (pc := 6) (k := 0) h6) ?_
  refine ac (s_bipush (M := M_Mm_isSignByte) (pc := 7) h7 (by decide)) ?_
  refine ac (s_icmp_eq (M := M_Mm_isSignByte) (pc := 9) h9 (by decide)) ?_
  refine ac (s_ildn (M := M_Mm_isSignByte) (pc := 12) (k := 0) h12) ?_
  refine ac (s_bipush (M := M_Mm_isSignByte) (pc := 13) h13 (by decide)) ?_
  refine ac (s_icmp_eq (M := M_Mm_isSignByte) (pc := 15) h15 (by decide)) ?_
  refine ac (s_ildn (M := M_Mm_isSignByte) (pc := 18) (k := 0) h18) ?_
  refine ac (s_bipush (M := M_Mm_isSignByte) (pc := 19) h19 (by decide)) ?_
  refine ac (s_icmp_eq (M := M_Mm_isSignByte) (pc := 21) h21 (by decide)) ?_
  refine ac (s_ildn (M := M_Mm_isSignByte) (pc := 24) (k := 0) h24) ?_
  refine ac (s_bipush (M := M_Mm_isSignByte) (pc := 25) h25 (by decide)) ?_
  refine ac (s_icmp_eq (M := M_Mm_isSignByte) (pc := 27) h27 (by decide)) ?_
  refine ac (s_ildn (M := M_Mm_isSignByte) (pc := 30) (k := 0) h30) ?_
  refine ac (s_bipush (M := M_Mm_isSignByte) (pc := 31) h31 (by decide)) ?_
  refine ac (s_icmp_eq (M := M_Mm_isSignByte) (pc := 33) h33 (by decide)) ?_
  refine ac (s_ildn (M := M_Mm_isSignByte) (pc := 36) (k := 0) h36) ?_
  refine ac (s_bipush (M := M_Mm_isSignByte) (pc := 37) h37 (by decide)) ?_
  refine ac (s_icmp_eq (M := M_Mm_isSignByte) (pc := 39) h39 (by decide)) ?_
  refine ac (s_ildn (M := M_Mm_isSignByte) (pc := 42) (k := 0) h42) ?_
  refine ac (s_bipush (M := M_Mm_isSignByte) (pc := 43) h43 (by decide)) ?_
  refine ac (s_icmp_eq (M := M_Mm_isSignByte) (pc := 45) h45 (by decide)) ?_
  refine ac (s_ildn (M := M_Mm_isSignByte) (pc := 48) (k := 0) h48) ?_
  refine ac (s_bipush (M := M_Mm_isSignByte) (pc := 49) h49 (by decide)) ?_
  refine ac (s_icmp_ne (M := M_Mm_isSignByte) (pc := 51) h51 (by decide)) ?_
  refine ac (s_iconst (M := M_Mm_isSignByte) (pc := 54) h54 rfl) ?_
  refine ac (s_goto (M := M_Mm_isSignByte) (pc := 55) h55 (by decide)) ?_
  refine ac (s_iconst (M := M_Mm_isSignByte) (pc := 58) h58 rfl) ?_
  refine ac (s_zret (M := M_Mm_isSignByte) (pc := 59) h59 rfl) ?_
  exact ac_nil
theorem e0_Mm_readsSetup : decode prog_10_method_60_code 0 = .ok (.aload_n 0, 1) ∧ decode prog_10_method_60_code 1 = .ok (.ldc 246, 2) ∧ decode prog_10_method_60_code 3 = .ok (.invokevirtual 248, 3) ∧ decode prog_10_method_60_code 6 = .ok (.ifCond .ne 8, 3) ∧ decode prog_10_method_60_code 9 = .ok (.aload_n 0, 1) ∧ decode prog_10_method_60_code 10 = .ok (.iconst 1, 1) ∧ decode prog_10_method_60_code 11 = .ok (.invokevirtual 214, 3) ∧ decode prog_10_method_60_code 14 = .ok (.aload_n 0, 1) ∧ decode prog_10_method_60_code 15 = .ok (.invokevirtual 217, 3) ∧ decode prog_10_method_60_code 18 = .ok (.aload_n 0, 1) ∧ decode prog_10_method_60_code 19 = .ok (.invokevirtual 198, 3) ∧ decode prog_10_method_60_code 22 = .ok (.ifCond .eq 55, 3) := by decide +kernel
theorem e1_Mm_readsSetup : decode prog_10_method_60_code 25 = .ok (.aload_n 0, 1) ∧ decode prog_10_method_60_code 26 = .ok (.invokevirtual 61, 3) ∧ decode prog_10_method_60_code 29 = .ok (.iconst 2, 1) ∧ decode prog_10_method_60_code 30 = .ok (.if_icmp .lt 40, 3) ∧ decode prog_10_method_60_code 33 = .ok (.aload_n 0, 1) ∧ decode prog_10_method_60_code 34 = .ok (.getfield 178, 3) ∧ decode prog_10_method_60_code 37 = .ok (.iconst 2, 1) ∧ decode prog_10_method_60_code 38 = .ok (.if_icmp .eq 32, 3) ∧ decode prog_10_method_60_code 41 = .ok (.aload_n 0, 1) ∧ decode prog_10_method_60_code 42 = .ok (.getfield 178, 3) ∧ decode prog_10_method_60_code 45 = .ok (.iconst 4, 1) ∧ decode prog_10_method_60_code 46 = .ok (.if_icmp .ne 31, 3) := by decide +kernel
theorem e2_Mm_readsSetup : decode prog_10_method_60_code 49 = .ok (.aload_n 0, 1) ∧ decode prog_10_method_60_code 50 = .ok (.aload_n 0, 1) ∧ decode prog_10_method_60_code 51 = .ok (.getfield 175, 3) ∧ decode prog_10_method_60_code 54 = .ok (.invokevirtual 172, 3) ∧ decode prog_10_method_60_code 57 = .ok (.i2l, 1) ∧ decode prog_10_method_60_code 58 = .ok (.ldc2_w 185, 3) ∧ decode prog_10_method_60_code 61 = .ok (.ldc2_w 187, 3) ∧ decode prog_10_method_60_code 64 = .ok (.invokestatic 57, 3) ∧ decode prog_10_method_60_code 67 = .ok (.ifCond .eq 10, 3) ∧ decode prog_10_method_60_code 70 = .ok (.aload_n 0, 1) ∧ decode prog_10_method_60_code 71 = .ok (.invokevirtual 252, 3) ∧ decode prog_10_method_60_code 74 = .ok (.goto (-56), 3) := by decide +kernel
theorem e3_Mm_readsSetup : decode prog_10_method_60_code 77 = .ok (.aload_n 0, 1) ∧ decode prog_10_method_60_code 78 = .ok (.bipush 59, 2) ∧ decode prog_10_method_60_code 80 = .ok (.invokevirtual 243, 3) ∧ decode prog_10_method_60_code 83 = .ok (.aload_n 0, 1) ∧ decode prog_10_method_60_code 84 = .ok (.ldc 255, 2) ∧ decode prog_10_method_60_code 86 = .ok (.invokevirtual 248, 3) ∧ decode prog_10_method_60_code 89 = .ok (.ifCond .eq 49, 3) ∧ decode prog_10_method_60_code 92 = .ok (.aload_n 0, 1) ∧ decode prog_10_method_60_code 93 = .ok (.invokevirtual 195, 3) ∧ decode prog_10_method_60_code 96 = .ok (.aload_n 0, 1) ∧ decode prog_10_method_60_code 97 = .ok (.lconst 0, 1) ∧ decode prog_10_method_60_code 98 = .ok (.aload_n 0, 1) := by decide +kernel
theorem e4_Mm_readsSetup : decode prog_10_method_60_code 99 = .ok (.invokevirtual 61, 3) ∧ decode prog_10_method_60_code 102 = .ok (.iconst 1, 1) ∧ decode prog_10_method_60_code 103 = .ok (.isub, 1) ∧ decode prog_10_method_60_code 104 = .ok (.iconst 2, 1) ∧ decode prog_10_method_60_code 105 = .ok (.if_icmp .ge 13, 3) ∧ decode prog_10_method_60_code 108 = .ok (.aload_n 0, 1) ∧ decode prog_10_method_60_code 109 = .ok (.invokevirtual 61, 3) ∧ decode prog_10_method_60_code 112 = .ok (.iconst 1, 1) ∧ decode prog_10_method_60_code 113 = .ok (.isub, 1) ∧ decode prog_10_method_60_code 114 = .ok (.i2l, 1) ∧ decode prog_10_method_60_code 115 = .ok (.goto 6, 3) ∧ decode prog_10_method_60_code 118 = .ok (.ldc2_w 76, 3) := by decide +kernel
theorem e5_Mm_readsSetup : decode prog_10_method_60_code 121 = .ok (.invokevirtual 239, 3) ∧ decode prog_10_method_60_code 124 = .ok (.istore_n 1, 1) ∧ decode prog_10_method_60_code 125 = .ok (.aload_n 0, 1) ∧ decode prog_10_method_60_code 126 = .ok (.getfield 13, 3) ∧ decode prog_10_method_60_code 129 = .ok (.iconst 1, 1) ∧ decode prog_10_method_60_code 130 = .ok (.iload_n 1, 1) ∧ decode prog_10_method_60_code 131 = .ok (.iastore, 1) ∧ decode prog_10_method_60_code 132 = .ok (.aload_n 0, 1) ∧ decode prog_10_method_60_code 133 = .ok (.bipush 59, 2) ∧ decode prog_10_method_60_code 135 = .ok (.invokevirtual 243, 3) ∧ decode prog_10_method_60_code 138 = .ok (.aload_n 0, 1) ∧ decode prog_10_method_60_code 139 = .ok (.ldc_w 257, 3) := by decide +kernel
theorem e6_Mm_readsSetup : decode prog_10_method_60_code 142 = .ok (.invokevirtual 248, 3) ∧ decode prog_10_method_60_code 145 = .ok (.ifCond .eq 27, 3) ∧ decode prog_10_method_60_code 148 = .ok (.aload_n 0, 1) ∧ decode prog_10_method_60_code 149 = .ok (.invokevirtual 195, 3) ∧ decode prog_10_method_60_code 152 = .ok (.aload_n 0, 1) ∧ decode prog_10_method_60_code 153 = .ok (.lconst 0, 1) ∧ decode prog_10_method_60_code 154 = .ok (.lconst 1, 1) ∧ decode prog_10_method_60_code 155 = .ok (.invokevirtual 239, 3) ∧ decode prog_10_method_60_code 158 = .ok (.istore_n 1, 1) ∧ decode prog_10_method_60_code 159 = .ok (.aload_n 0, 1) ∧ decode prog_10_method_60_code 160 = .ok (.getfield 13, 3) ∧ decode prog_10_method_60_code 163 = .ok (.iconst 2, 1) := by decide +kernel
theorem e7_Mm_readsSetup : decode prog_10_method_60_code 164 = .ok (.iload_n 1, 1) ∧ decode prog_10_method_60_code 165 = .ok (.iastore, 1) ∧ decode prog_10_method_60_code 166 = .ok (.aload_n 0, 1) ∧ decode prog_10_method_60_code 167 = .ok (.bipush 59, 2) ∧ decode prog_10_method_60_code 169 = .ok (.invokevirtual 243, 3) ∧ decode prog_10_method_60_code 172 = .ok (.aload_n 0, 1) ∧ decode prog_10_method_60_code 173 = .ok (.invokevirtual 198, 3) ∧ decode prog_10_method_60_code 176 = .ok (.ifCond .eq 35, 3) ∧ decode prog_10_method_60_code 179 = .ok (.aload_n 0, 1) ∧ decode prog_10_method_60_code 180 = .ok (.getfield 178, 3) ∧ decode prog_10_method_60_code 183 = .ok (.ifCond .eq 28, 3) ∧ decode prog_10_method_60_code 186 = .ok (.aload_n 0, 1) := by decide +kernel
theorem e8_Mm_readsSetup : decode prog_10_method_60_code 187 = .ok (.ldc_w 259, 3) ∧ decode prog_10_method_60_code 190 = .ok (.invokevirtual 248, 3) ∧ decode prog_10_method_60_code 193 = .ok (.ifCond .eq 10, 3) ∧ decode prog_10_method_60_code 196 = .ok (.aload_n 0, 1) ∧ decode prog_10_method_60_code 197 = .ok (.invokevirtual 261, 3) ∧ decode prog_10_method_60_code 200 = .ok (.goto (-28), 3) ∧ decode prog_10_method_60_code 203 = .ok (.aload_n 0, 1) ∧ decode prog_10_method_60_code 204 = .ok (.iconst 1, 1) ∧ decode prog_10_method_60_code 205 = .ok (.invokevirtual 214, 3) ∧ decode prog_10_method_60_code 208 = .ok (.goto (-36), 3) ∧ decode prog_10_method_60_code 211 = .ok (.return_, 1) := by decide +kernel
def T_Mm_readsSetup : TT := [(0, o_ald 0 1), (1, o_push (.ref 1010) 3), (3, o_callV M_Mm_isWord 8 2 6), (6, o_if_ne 14 9), (9, o_ald 0 10), (10, o_push (.int (iI (1))) 11), (11, o_callV M_Mm_errs 8 2 14), (14, o_ald 0 15), (15, o_callV M_Mm_goesOn 8 1 18), (18, o_ald 0 19), (19, o_callV M_Mm_isGood 8 1 22), (22, o_if_eq 77 25), (25, o_ald 0 26), (26, o_callV M_Mm_many 8 1 29), (29, o_push (.int (iI (2))) 30), (30, o_icmp_lt 70 33), (33, o_ald 0 34), (34, o_get 8 14 37), (37, o_push (.int (iI (2))) 38), (38, o_icmp_eq 70 41), (41, o_ald 0 42), (42, o_get 8 14 45), (45, o_push (.int (iI (4))) 46), (46, o_icmp_ne 77 49), (49, o_ald 0 50), (50, o_ald 0 51), (51, o_get 8 12 54), (54, o_callV M_Mm_byteAt 8 2 57), (57, o_i2l 58), (58, o_push (.long (lI (48))) 61), (61, o_push (.long (lI (57))) 64), (64, o_call M_Mm_isIn 3 67), (67, o_if_eq 77 70), (70, o_ald 0 71), (71, o_callV M_Mm_modulusHere 8 1 74), (74, o_goto 18), (77, o_ald 0 78), (78, o_push (.int (iI (59))) 80), (80, o_callV M_Mm_sign 8 2 83), (83, o_ald 0 84), (84, o_push (.ref 1011) 86), (86, o_callV M_Mm_isWord 8 2 89), (89, o_if_eq 138 92), (92, o_ald 0 93), (93, o_callV M_Mm_scans 8 1 96), (96, o_ald 0 97), (97, o_push (.long (lI 0)) 98), (98, o_ald 0 99), (99, o_callV M_Mm_many 8 1 102), (102, o_push (.int (iI (1))) 103), (103, o_isub 104), (104, o_push (.int (iI (2))) 105), (105, o_icmp_ge 118 108), (108, o_ald 0 109), (109, o_callV M_Mm_many 8 1 112), (112, o_push (.int (iI (1))) 113), (113, o_isub 114), (114, o_i2l 115), (115, o_goto 121), (118, o_push (.long (lI (2))) 121), (121, o_callV M_Mm_number_JJ 8 3 124), (124, o_ist 1 125), (125, o_ald 0 126), (126, o_get 8 1 129), (129, o_push (.int (iI (1))) 130), (130, o_ild 1 131), (131, o_iast 132), (132, o_ald 0 133), (133, o_push (.int (iI (59))) 135), (135, o_callV M_Mm_sign 8 2 138), (138, o_ald 0 139), (139, o_push (.ref 1012) 142), (142, o_callV M_Mm_isWord 8 2 145), (145, o_if_eq 172 148), (148, o_ald 0 149), (149, o_callV M_Mm_scans 8 1 152), (152, o_ald 0 153), (153, o_push (.long (lI 0)) 154), (154, o_push (.long (lI 1)) 155), (155, o_callV M_Mm_number_JJ 8 3 158), (158, o_ist 1 159), (159, o_ald 0 160), (160, o_get 8 1 163), (163, o_push (.int (iI (2))) 164), (164, o_ild 1 165), (165, o_iast 166), (166, o_ald 0 167), (167, o_push (.int (iI (59))) 169), (169, o_callV M_Mm_sign 8 2 172), (172, o_ald 0 173), (173, o_callV M_Mm_isGood 8 1 176), (176, o_if_eq 211 179), (179, o_ald 0 180), (180, o_get 8 14 183), (183, o_if_eq 211 186), (186, o_ald 0 187), (187, o_push (.ref 1013) 190), (190, o_callV M_Mm_isWord 8 2 193), (193, o_if_eq 203 196), (196, o_ald 0 197), (197, o_callV M_Mm_setHere 8 1 200), (200, o_goto 172), (203, o_ald 0 204), (204, o_push (.int (iI (1))) 205), (205, o_callV M_Mm_errs 8 2 208), (208, o_goto 172), (211, o_vret)]
theorem k_Mm_readsSetup : ∀ x ∈ T_Mm_readsSetup, SO M_Mm_readsSetup x.1 x.2 := by
  obtain ⟨h0, h1, h3, h6, h9, h10, h11, h14, h15, h18, h19, h22⟩ := e0_Mm_readsSetup
  obtain ⟨h25, h26, h29, h30, h33, h34, h37, h38, h41, h42, h45, h46⟩ := e1_Mm_readsSetup
  obtain ⟨h49, h50, h51, h54, h57, h58, h61, h64, h67, h70, h71, h74⟩ := e2_Mm_readsSetup
  obtain ⟨h77, h78, h80, h83, h84, h86, h89, h92, h93, h96, h97, h98⟩ := e3_Mm_readsSetup
  obtain ⟨h99, h102, h103, h104, h105, h108, h109, h112, h113, h114, h115, h118⟩ := e4_Mm_readsSetup
  obtain ⟨h121, h124, h125, h126, h129, h130, h131, h132, h133, h135, h138, h139⟩ := e5_Mm_readsSetup
  obtain ⟨h142, h145, h148, h149, h152, h153, h154, h155, h158, h159, h160, h163⟩ := e6_Mm_readsSetup
  obtain ⟨h164, h165, h166, h167, h169, h172, h173, h176, h179, h180, h183, h186⟩ := e7_Mm_readsSetup
  obtain ⟨h187, h190, h193, h196, h197, h200, h203, h204, h205, h208, h211⟩ := e8_Mm_readsSetup
  refine ac (s_aldn (M := M_Mm_readsSetup) (pc := 0) (k := 0) h0) ?_
  refine ac (s_ldcS (M := M_Mm_readsSetup) (pc := 1) (i := 10) h1 rfl) ?_
  refine ac (s_callV (M := M_Mm_readsSetup) (pc := 3) (tz_Mm rfl) h3 q_Mm_isWord wd1831 wd1833 wd34 rfl (T := TX8) (N := 29) rfl) ?_
  refine ac (s_if_ne (M := M_Mm_readsSetup) (pc := 6) h6 (by decide)) ?_
  refine ac (s_aldn (M := M_Mm_readsSetup) (pc := 9) (k := 0) h9) ?_
  refine ac (s_iconst (M := M_Mm_readsSetup) (pc := 10) h10 rfl) ?_
  refine ac (s_callV (M := M_Mm_readsSetup) (pc := 11) (tz_Mm rfl) h11 q_Mm_errs wd1841 wd1843 wd36 rfl (T := TX8) (N := 29) rfl) ?_
  refine ac (s_aldn (M := M_Mm_readsSetup) (pc := 14) (k := 0) h14) ?_
  refine ac (s_callV (M := M_Mm_readsSetup) (pc := 15) (tz_Mm rfl) h15 q_Mm_goesOn wd1845 wd1847 wd37 rfl (T := TX8) (N := 29) rfl) ?_
  refine ac (s_aldn (M := M_Mm_readsSetup) (pc := 18) (k := 0) h18) ?_
  refine ac (s_callV (M := M_Mm_readsSetup) (pc := 19) (tz_Mm rfl) h19 q_Mm_isGood wd1835 wd1837 wd35 rfl (T := TX8) (N := 29) rfl) ?_
  refine ac (s_if_eq (M := M_Mm_readsSetup) (pc := 22) h22 (by decide)) ?_
  refine ac (s_aldn (M := M_Mm_readsSetup) (pc := 25) (k := 0) h25) ?_
  refine ac (s_callV (M := M_Mm_readsSetup) (pc := 26) (tz_Mm rfl) h26 q_Mm_many wd1849 wd1851 wd38 rfl (T := TX8) (N := 29) rfl) ?_
  refine ac (s_iconst (M := M_Mm_readsSetup) (pc := 29) h29 rfl) ?_
  refine ac (s_icmp_lt (M := M_Mm_readsSetup) (pc := 30) h30 (by decide)) ?_
  refine ac (s_aldn (M := M_Mm_readsSetup) (pc := 33) (k := 0) h33) ?_
  refine ac (s_get (M := M_Mm_readsSetup) (pc := 34) (T := TX8) (N := 29) h34 rfl in_X8 (by decide) wd1703) ?_
  refine ac (s_iconst (M := M_Mm_readsSetup) (pc := 37) h37 rfl) ?_
  refine ac (s_icmp_eq (M := M_Mm_readsSetup) (pc := 38) h38 (by decide)) ?_
  refine ac (s_aldn (M := M_Mm_readsSetup) (pc := 41) (k := 0) h41) ?_
  refine ac (s_get (M := M_Mm_readsSetup) (pc := 42) (T := TX8) (N := 29) h42 rfl in_X8 (by decide) wd1703) ?_
  refine ac (s_iconst (M := M_Mm_readsSetup) (pc := 45) h45 rfl) ?_
  refine ac (s_icmp_ne (M := M_Mm_readsSetup) (pc := 46) h46 (by decide)) ?_
  refine ac (s_aldn (M := M_Mm_readsSetup) (pc := 49) (k := 0) h49) ?_
  refine ac (s_aldn (M := M_Mm_readsSetup) (pc := 50) (k := 0) h50) ?_
  refine ac (s_get (M := M_Mm_readsSetup) (pc := 51) (T := TX8) (N := 29) h51 rfl in_X8 (by decide) wd1701) ?_
  refine ac (s_callV (M := M_Mm_readsSetup) (pc := 54) (tz_Mm rfl) h54 q_Mm_byteAt wd1815 wd1817 wd32 rfl (T := TX8) (N := 29) rfl) ?_
  refine ac (s_i2l (M := M_Mm_readsSetup) (pc := 57) h57) ?_
  refine ac (s_ldc2 (M := M_Mm_readsSetup) (pc := 58) h58 wd1821) ?_
  refine ac (s_ldc2 (M := M_Mm_readsSetup) (pc := 61) h61 wd1822) ?_
  refine ac (s_callS (M := M_Mm_readsSetup) (pc := 64) (tz_Mm rfl) h64 q_Mm_isIn wd1789 wd1790) ?_
  refine ac (s_if_eq (M := M_Mm_readsSetup) (pc := 67) h67 (by decide)) ?_
  refine ac (s_aldn (M := M_Mm_readsSetup) (pc := 70) (k := 0) h70) ?_
  refine ac (s_callV (M := M_Mm_readsSetup) (pc := 71) (tz_Mm rfl) h71 q_Mm_modulusHere wd1853 wd1855 wd39 rfl (T := TX8) (N := 29) rfl) ?_
  refine ac (s_goto (M := M_Mm_readsSetup) (pc := 74) h74 (by decide)) ?_
  refine ac (s_aldn (M := M_Mm_readsSetup) (pc := 77) (k := 0) h77) ?_
  refine ac (s_bipush (M := M_Mm_readsSetup) (pc := 78) h78 (by decide)) ?_
  refine ac (s_callV (M := M_Mm_readsSetup) (pc := 80) (tz_Mm rfl) h80 q_Mm_sign wd1878 wd1880 wd44 rfl (T := TX8) (N := 29) rfl) ?_
  refine ac (s_aldn (M := M_Mm_readsSetup) (pc := 83) (k := 0) h83) ?_
  refine ac (s_ldcS (M := M_Mm_readsSetup) (pc := 84) (i := 11) h84 rfl) ?_
  refine ac (s_callV (M := M_Mm_readsSetup) (pc := 86) (tz_Mm rfl) h86 q_Mm_isWord wd1831 wd1833 wd34 rfl (T := TX8) (N := 29) rfl) ?_
  refine ac (s_if_eq (M := M_Mm_readsSetup) (pc := 89) h89 (by decide)) ?_
  refine ac (s_aldn (M := M_Mm_readsSetup) (pc := 92) (k := 0) h92) ?_
  refine ac (s_callV (M := M_Mm_readsSetup) (pc := 93) (tz_Mm rfl) h93 q_Mm_scans wd1811 wd1813 wd31 rfl (T := TX8) (N := 29) rfl) ?_
  refine ac (s_aldn (M := M_Mm_readsSetup) (pc := 96) (k := 0) h96) ?_
  refine ac (s_lconst (M := M_Mm_readsSetup) (pc := 97) h97 (by decide)) ?_
  refine ac (s_aldn (M := M_Mm_readsSetup) (pc := 98) (k := 0) h98) ?_
  refine ac (s_callV (M := M_Mm_readsSetup) (pc := 99) (tz_Mm rfl) h99 q_Mm_many wd1849 wd1851 wd38 rfl (T := TX8) (N := 29) rfl) ?_
  refine ac (s_iconst (M := M_Mm_readsSetup) (pc := 102) h102 rfl) ?_
  refine ac (s_isub (M := M_Mm_readsSetup) (pc := 103) h103) ?_
  refine ac (s_iconst (M := M_Mm_readsSetup) (pc := 104) h104 rfl) ?_
  refine ac (s_icmp_ge (M := M_Mm_readsSetup) (pc := 105) h105 (by decide)) ?_
  refine ac (s_aldn (M := M_Mm_readsSetup) (pc := 108) (k := 0) h108) ?_
  refine ac (s_callV (M := M_Mm_readsSetup) (pc := 109) (tz_Mm rfl) h109 q_Mm_many wd1849 wd1851 wd38 rfl (T := TX8) (N := 29) rfl) ?_
  refine ac (s_iconst (M := M_Mm_readsSetup) (pc := 112) h112 rfl) ?_
  refine ac (s_isub (M := M_Mm_readsSetup) (pc := 113) h113) ?_
  refine ac (s_i2l (M := M_Mm_readsSetup) (pc := 114) h114) ?_
  refine ac (s_goto (M := M_Mm_readsSetup) (pc := 115) h115 (by decide)) ?_
  refine ac (s_ldc2 (M := M_Mm_readsSetup) (pc := 118) h118 wd1857) ?_
  refine ac (s_callV (M := M_Mm_readsSetup) (pc := 121) (tz_Mm rfl) h121 q_Mm_number_JJ wd1887 wd1889 wd46 rfl (T := TX8) (N := 29) rfl) ?_
  refine ac (s_istn (M := M_Mm_readsSetup) (pc := 124) (k := 1) h124 (by decide)) ?_
  refine ac (s_aldn (M := M_Mm_readsSetup) (pc := 125) (k := 0) h125) ?_
  refine ac (s_get (M := M_Mm_readsSetup) (pc := 126) (T := TX8) (N := 29) h126 rfl in_X8 (by decide) wd1690) ?_
  refine ac (s_iconst (M := M_Mm_readsSetup) (pc := 129) h129 rfl) ?_
  refine ac (s_ildn (M := M_Mm_readsSetup) (pc := 130) (k := 1) h130) ?_
  refine ac (s_iast (M := M_Mm_readsSetup) (pc := 131) h131) ?_
  refine ac (s_aldn (M := M_Mm_readsSetup) (pc := 132) (k := 0) h132) ?_
  refine ac (s_bipush (M := M_Mm_readsSetup) (pc := 133) h133 (by decide)) ?_
  refine ac (s_callV (M := M_Mm_readsSetup) (pc := 135) (tz_Mm rfl) h135 q_Mm_sign wd1878 wd1880 wd44 rfl (T := TX8) (N := 29) rfl) ?_
  refine ac (s_aldn (M := M_Mm_readsSetup) (pc := 138) (k := 0) h138) ?_
  refine ac (s_ldcSW (M := M_Mm_readsSetup) (pc := 139) (i := 12) h139 rfl) ?_
  refine ac (s_callV (M := M_Mm_readsSetup) (pc := 142) (tz_Mm rfl) h142 q_Mm_isWord wd1831 wd1833 wd34 rfl (T := TX8) (N := 29) rfl) ?_
  refine ac (s_if_eq (M := M_Mm_readsSetup) (pc := 145) h145 (by decide)) ?_
  refine ac (s_aldn (M := M_Mm_readsSetup) (pc := 148) (k := 0) h148) ?_
  refine ac (s_callV (M := M_Mm_readsSetup) (pc := 149) (tz_Mm rfl) h149 q_Mm_scans wd1811 wd1813 wd31 rfl (T := TX8) (N := 29) rfl) ?_
  refine ac (s_aldn (M := M_Mm_readsSetup) (pc := 152) (k := 0) h152) ?_
  refine ac (s_lconst (M := M_Mm_readsSetup) (pc := 153) h153 (by decide)) ?_
  refine ac (s_lconst (M := M_Mm_readsSetup) (pc := 154) h154 (by decide)) ?_
  refine ac (s_callV (M := M_Mm_readsSetup) (pc := 155) (tz_Mm rfl) h155 q_Mm_number_JJ wd1887 wd1889 wd46 rfl (T := TX8) (N := 29) rfl) ?_
  refine ac (s_istn (M := M_Mm_readsSetup) (pc := 158) (k := 1) h158 (by decide)) ?_
  refine ac (s_aldn (M := M_Mm_readsSetup) (pc := 159) (k := 0) h159) ?_
  refine ac (s_get (M := M_Mm_readsSetup) (pc := 160) (T := TX8) (N := 29) h160 rfl in_X8 (by decide) wd1690) ?_
  refine ac (s_iconst (M := M_Mm_readsSetup) (pc := 163) h163 rfl) ?_
  refine ac (s_ildn (M := M_Mm_readsSetup) (pc := 164) (k := 1) h164) ?_
  refine ac (s_iast (M := M_Mm_readsSetup) (pc := 165) h165) ?_
  refine ac (s_aldn (M := M_Mm_readsSetup) (pc := 166) (k := 0) h166) ?_
  refine ac (s_bipush (M := M_Mm_readsSetup) (pc := 167) h167 (by decide)) ?_
  refine ac (s_callV (M := M_Mm_readsSetup) (pc := 169) (tz_Mm rfl) h169 q_Mm_sign wd1878 wd1880 wd44 rfl (T := TX8) (N := 29) rfl) ?_
  refine ac (s_aldn (M := M_Mm_readsSetup) (pc := 172) (k := 0) h172) ?_
  refine ac (s_callV (M := M_Mm_readsSetup) (pc := 173) (tz_Mm rfl) h173 q_Mm_isGood wd1835 wd1837 wd35 rfl (T := TX8) (N := 29) rfl) ?_
  refine ac (s_if_eq (M := M_Mm_readsSetup) (pc := 176) h176 (by decide)) ?_
  refine ac (s_aldn (M := M_Mm_readsSetup) (pc := 179) (k := 0) h179) ?_
  refine ac (s_get (M := M_Mm_readsSetup) (pc := 180) (T := TX8) (N := 29) h180 rfl in_X8 (by decide) wd1703) ?_
  refine ac (s_if_eq (M := M_Mm_readsSetup) (pc := 183) h183 (by decide)) ?_
  refine ac (s_aldn (M := M_Mm_readsSetup) (pc := 186) (k := 0) h186) ?_
  refine ac (s_ldcSW (M := M_Mm_readsSetup) (pc := 187) (i := 13) h187 rfl) ?_
  refine ac (s_callV (M := M_Mm_readsSetup) (pc := 190) (tz_Mm rfl) h190 q_Mm_isWord wd1831 wd1833 wd34 rfl (T := TX8) (N := 29) rfl) ?_
  refine ac (s_if_eq (M := M_Mm_readsSetup) (pc := 193) h193 (by decide)) ?_
  refine ac (s_aldn (M := M_Mm_readsSetup) (pc := 196) (k := 0) h196) ?_
  refine ac (s_callV (M := M_Mm_readsSetup) (pc := 197) (tz_Mm rfl) h197 q_Mm_setHere wd1893 wd1895 wd47 rfl (T := TX8) (N := 29) rfl) ?_
  refine ac (s_goto (M := M_Mm_readsSetup) (pc := 200) h200 (by decide)) ?_
  refine ac (s_aldn (M := M_Mm_readsSetup) (pc := 203) (k := 0) h203) ?_
  refine ac (s_iconst (M := M_Mm_readsSetup) (pc := 204) h204 rfl) ?_
  refine ac (s_callV (M := M_Mm_readsSetup) (pc := 205) (tz_Mm rfl) h205 q_Mm_errs wd1841 wd1843 wd36 rfl (T := TX8) (N := 29) rfl) ?_
  refine ac (s_goto (M := M_Mm_readsSetup) (pc := 208) h208 (by decide)) ?_
  refine ac (s_vret (M := M_Mm_readsSetup) (pc := 211) h211 rfl) ?_
  exact ac_nil
theorem e0_Mm_isWord : decode prog_10_method_49_code 0 = .ok (.aload_n 0, 1) ∧ decode prog_10_method_49_code 1 = .ok (.invokevirtual 198, 3) ∧ decode prog_10_method_49_code 4 = .ok (.ifCond .eq 27, 3) ∧ decode prog_10_method_49_code 7 = .ok (.aload_n 0, 1) ∧ decode prog_10_method_49_code 8 = .ok (.getfield 178, 3) ∧ decode prog_10_method_49_code 11 = .ok (.iconst 1, 1) ∧ decode prog_10_method_49_code 12 = .ok (.if_icmp .ne 19, 3) ∧ decode prog_10_method_49_code 15 = .ok (.aload_n 0, 1) ∧ decode prog_10_method_49_code 16 = .ok (.getfield 169, 3) ∧ decode prog_10_method_49_code 19 = .ok (.aload_n 0, 1) ∧ decode prog_10_method_49_code 20 = .ok (.getfield 175, 3) ∧ decode prog_10_method_49_code 23 = .ok (.isub, 1) := by decide +kernel
theorem e1_Mm_isWord : decode prog_10_method_49_code 24 = .ok (.aload_n 1, 1) ∧ decode prog_10_method_49_code 25 = .ok (.invokevirtual 202, 3) ∧ decode prog_10_method_49_code 28 = .ok (.if_icmp .eq 5, 3) ∧ decode prog_10_method_49_code 31 = .ok (.iconst 0, 1) ∧ decode prog_10_method_49_code 32 = .ok (.ireturn, 1) ∧ decode prog_10_method_49_code 33 = .ok (.iconst 0, 1) ∧ decode prog_10_method_49_code 34 = .ok (.istore_n 2, 1) ∧ decode prog_10_method_49_code 35 = .ok (.iload_n 2, 1) ∧ decode prog_10_method_49_code 36 = .ok (.aload_n 1, 1) ∧ decode prog_10_method_49_code 37 = .ok (.invokevirtual 202, 3) ∧ decode prog_10_method_49_code 40 = .ok (.if_icmp .ge 29, 3) ∧ decode prog_10_method_49_code 43 = .ok (.aload_n 0, 1) := by decide +kernel
theorem e2_Mm_isWord : decode prog_10_method_49_code 44 = .ok (.aload_n 0, 1) ∧ decode prog_10_method_49_code 45 = .ok (.getfield 175, 3) ∧ decode prog_10_method_49_code 48 = .ok (.iload_n 2, 1) ∧ decode prog_10_method_49_code 49 = .ok (.iadd, 1) ∧ decode prog_10_method_49_code 50 = .ok (.invokevirtual 172, 3) ∧ decode prog_10_method_49_code 53 = .ok (.aload_n 1, 1) ∧ decode prog_10_method_49_code 54 = .ok (.iload_n 2, 1) ∧ decode prog_10_method_49_code 55 = .ok (.invokevirtual 207, 3) ∧ decode prog_10_method_49_code 58 = .ok (.if_icmp .eq 5, 3) ∧ decode prog_10_method_49_code 61 = .ok (.iconst 0, 1) ∧ decode prog_10_method_49_code 62 = .ok (.ireturn, 1) ∧ decode prog_10_method_49_code 63 = .ok (.iinc 2 1, 3) := by decide +kernel
theorem e3_Mm_isWord : decode prog_10_method_49_code 66 = .ok (.goto (-31), 3) ∧ decode prog_10_method_49_code 69 = .ok (.iconst 1, 1) ∧ decode prog_10_method_49_code 70 = .ok (.ireturn, 1) := by decide +kernel
def T_Mm_isWord : TT := [(0, o_ald 0 1), (1, o_callV M_Mm_isGood 8 1 4), (4, o_if_eq 31 7), (7, o_ald 0 8), (8, o_get 8 14 11), (11, o_push (.int (iI (1))) 12), (12, o_icmp_ne 31 15), (15, o_ald 0 16), (16, o_get 8 13 19), (19, o_ald 0 20), (20, o_get 8 12 23), (23, o_isub 24), (24, o_ald 1 25), (25, o_callVS M_jStr_length 1 28), (28, o_icmp_eq 33 31), (31, o_push (.int (iI (0))) 32), (32, o_zret), (33, o_push (.int (iI (0))) 34), (34, o_ist 2 35), (35, o_ild 2 36), (36, o_ald 1 37), (37, o_callVS M_jStr_length 1 40), (40, o_icmp_ge 69 43), (43, o_ald 0 44), (44, o_ald 0 45), (45, o_get 8 12 48), (48, o_ild 2 49), (49, o_iadd 50), (50, o_callV M_Mm_byteAt 8 2 53), (53, o_ald 1 54), (54, o_ild 2 55), (55, o_callVS M_jStr_charAt 2 58), (58, o_icmp_eq 63 61), (61, o_push (.int (iI (0))) 62), (62, o_zret), (63, o_iinc 2 (iI (1)) 66), (66, o_goto 35), (69, o_push (.int (iI (1))) 70), (70, o_zret)]
theorem k_Mm_isWord : ∀ x ∈ T_Mm_isWord, SO M_Mm_isWord x.1 x.2 := by
  obtain ⟨h0, h1, h4, h7, h8, h11, h12, h15, h16, h19, h20, h23⟩ := e0_Mm_isWord
  obtain ⟨h24, h25, h28, h31, h32, h33, h34, h35, h36, h37, h40, h43⟩ := e1_Mm_isWord
  obtain ⟨h44, h45, h48, h49, h50, h53, h54, h55, h58, h61, h62, h63⟩ := e2_Mm_isWord
  obtain ⟨h66, h69, h70⟩ := e3_Mm_isWord
  refine ac (s_aldn (M := M_Mm_isWord) (pc := 0) (k := 0) h0) ?_
  refine ac (s_callV (M := M_Mm_isWord) (pc := 1) (tz_Mm rfl) h1 q_Mm_isGood wd1835 wd1837 wd35 rfl (T := TX8) (N := 29) rfl) ?_
  refine ac (s_if_eq (M := M_Mm_isWord) (pc := 4) h4 (by decide)) ?_
  refine ac (s_aldn (M := M_Mm_isWord) (pc := 7) (k := 0) h7) ?_
  refine ac (s_get (M := M_Mm_isWord) (pc := 8) (T := TX8) (N := 29) h8 rfl in_X8 (by decide) wd1703) ?_
  refine ac (s_iconst (M := M_Mm_isWord) (pc := 11) h11 rfl) ?_
  refine ac (s_icmp_ne (M := M_Mm_isWord) (pc := 12) h12 (by decide)) ?_
  refine ac (s_aldn (M := M_Mm_isWord) (pc := 15) (k := 0) h15) ?_
  refine ac (s_get (M := M_Mm_isWord) (pc := 16) (T := TX8) (N := 29) h16 rfl in_X8 (by decide) wd1702) ?_
  refine ac (s_aldn (M := M_Mm_isWord) (pc := 19) (k := 0) h19) ?_
  refine ac (s_get (M := M_Mm_isWord) (pc := 20) (T := TX8) (N := 29) h20 rfl in_X8 (by decide) wd1701) ?_
  refine ac (s_isub (M := M_Mm_isWord) (pc := 23) h23) ?_
  refine ac (s_aldn (M := M_Mm_isWord) (pc := 24) (k := 1) h24) ?_
  refine ac (s_callVS (M := M_Mm_isWord) (pc := 25) (tz_Mm rfl) h25 q_jStr_length rfl wd1839 wd472 wd473) ?_
  refine ac (s_icmp_eq (M := M_Mm_isWord) (pc := 28) h28 (by decide)) ?_
  refine ac (s_iconst (M := M_Mm_isWord) (pc := 31) h31 rfl) ?_
  refine ac (s_zret (M := M_Mm_isWord) (pc := 32) h32 rfl) ?_
  refine ac (s_iconst (M := M_Mm_isWord) (pc := 33) h33 rfl) ?_
  refine ac (s_istn (M := M_Mm_isWord) (pc := 34) (k := 2) h34 (by decide)) ?_
  refine ac (s_ildn (M := M_Mm_isWord) (pc := 35) (k := 2) h35) ?_
  refine ac (s_aldn (M := M_Mm_isWord) (pc := 36) (k := 1) h36) ?_
  refine ac (s_callVS (M := M_Mm_isWord) (pc := 37) (tz_Mm rfl) h37 q_jStr_length rfl wd1839 wd472 wd473) ?_
  refine ac (s_icmp_ge (M := M_Mm_isWord) (pc := 40) h40 (by decide)) ?_
  refine ac (s_aldn (M := M_Mm_isWord) (pc := 43) (k := 0) h43) ?_
  refine ac (s_aldn (M := M_Mm_isWord) (pc := 44) (k := 0) h44) ?_
  refine ac (s_get (M := M_Mm_isWord) (pc := 45) (T := TX8) (N := 29) h45 rfl in_X8 (by decide) wd1701) ?_
  refine ac (s_ildn (M := M_Mm_isWord) (pc := 48) (k := 2) h48) ?_
  refine ac (s_iadd (M := M_Mm_isWord) (pc := 49) h49) ?_
  refine ac (s_callV (M := M_Mm_isWord) (pc := 50) (tz_Mm rfl) h50 q_Mm_byteAt wd1815 wd1817 wd32 rfl (T := TX8) (N := 29) rfl) ?_
  refine ac (s_aldn (M := M_Mm_isWord) (pc := 53) (k := 1) h53) ?_
  refine ac (s_ildn (M := M_Mm_isWord) (pc := 54) (k := 2) h54) ?_
  refine ac (s_callVS (M := M_Mm_isWord) (pc := 55) (tz_Mm rfl) h55 q_jStr_charAt rfl wd1840 wd481 wd482) ?_
  refine ac (s_icmp_eq (M := M_Mm_isWord) (pc := 58) h58 (by decide)) ?_
  refine ac (s_iconst (M := M_Mm_isWord) (pc := 61) h61 rfl) ?_
  refine ac (s_zret (M := M_Mm_isWord) (pc := 62) h62 rfl) ?_
  refine ac (s_iinc (M := M_Mm_isWord) (pc := 63) h63 rfl (by decide)) ?_
  refine ac (s_goto (M := M_Mm_isWord) (pc := 66) h66 (by decide)) ?_
  refine ac (s_iconst (M := M_Mm_isWord) (pc := 69) h69 rfl) ?_
  refine ac (s_zret (M := M_Mm_isWord) (pc := 70) h70 rfl) ?_
  exact ac_nil
theorem e0_Mm_isGood : decode prog_10_method_46_code 0 = .ok (.aload_n 0, 1) ∧ decode prog_10_method_46_code 1 = .ok (.getfield 166, 3) ∧ decode prog_10_method_46_code 4 = .ok (.ifCond .ne 7, 3) ∧ decode prog_10_method_46_code 7 = .ok (.iconst 1, 1) ∧ decode prog_10_method_46_code 8 = .ok (.goto 4, 3) ∧ decode prog_10_method_46_code 11 = .ok (.iconst 0, 1) ∧ decode prog_10_method_46_code 12 = .ok (.ireturn, 1) := by decide +kernel
def T_Mm_isGood : TT := [(0, o_ald 0 1), (1, o_get 8 10 4), (4, o_if_ne 11 7), (7, o_push (.int (iI (1))) 8), (8, o_goto 12), (11, o_push (.int (iI (0))) 12), (12, o_zret)]
theorem k_Mm_isGood : ∀ x ∈ T_Mm_isGood, SO M_Mm_isGood x.1 x.2 := by
  obtain ⟨h0, h1, h4, h7, h8, h11, h12⟩ := e0_Mm_isGood
  refine ac (s_aldn (M := M_Mm_isGood) (pc := 0) (k := 0) h0) ?_
  refine ac (s_get (M := M_Mm_isGood) (pc := 1) (T := TX8) (N := 29) h1 rfl in_X8 (by decide) wd1699) ?_
  refine ac (s_if_ne (M := M_Mm_isGood) (pc := 4) h4 (by decide)) ?_
  refine ac (s_iconst (M := M_Mm_isGood) (pc := 7) h7 rfl) ?_
  refine ac (s_goto (M := M_Mm_isGood) (pc := 8) h8 (by decide)) ?_
  refine ac (s_iconst (M := M_Mm_isGood) (pc := 11) h11 rfl) ?_
  refine ac (s_zret (M := M_Mm_isGood) (pc := 12) h12 rfl) ?_
  exact ac_nil
theorem e0_Mm_errs : decode prog_10_method_47_code 0 = .ok (.aload_n 0, 1) ∧ decode prog_10_method_47_code 1 = .ok (.invokevirtual 198, 3) ∧ decode prog_10_method_47_code 4 = .ok (.ifCond .ne 4, 3) ∧ decode prog_10_method_47_code 7 = .ok (.return_, 1) ∧ decode prog_10_method_47_code 8 = .ok (.aload_n 0, 1) ∧ decode prog_10_method_47_code 9 = .ok (.iload_n 1, 1) ∧ decode prog_10_method_47_code 10 = .ok (.putfield 166, 3) ∧ decode prog_10_method_47_code 13 = .ok (.aload_n 0, 1) ∧ decode prog_10_method_47_code 14 = .ok (.aload_n 0, 1) ∧ decode prog_10_method_47_code 15 = .ok (.getfield 175, 3) ∧ decode prog_10_method_47_code 18 = .ok (.putfield 33, 3) ∧ decode prog_10_method_47_code 21 = .ok (.return_, 1) := by decide +kernel
def T_Mm_errs : TT := [(0, o_ald 0 1), (1, o_callV M_Mm_isGood 8 1 4), (4, o_if_ne 8 7), (7, o_vret), (8, o_ald 0 9), (9, o_ild 1 10), (10, o_puti 8 10 13), (13, o_ald 0 14), (14, o_ald 0 15), (15, o_get 8 12 18), (18, o_puti 8 11 21), (21, o_vret)]
theorem k_Mm_errs : ∀ x ∈ T_Mm_errs, SO M_Mm_errs x.1 x.2 := by
  obtain ⟨h0, h1, h4, h7, h8, h9, h10, h13, h14, h15, h18, h21⟩ := e0_Mm_errs
  refine ac (s_aldn (M := M_Mm_errs) (pc := 0) (k := 0) h0) ?_
  refine ac (s_callV (M := M_Mm_errs) (pc := 1) (tz_Mm rfl) h1 q_Mm_isGood wd1835 wd1837 wd35 rfl (T := TX8) (N := 29) rfl) ?_
  refine ac (s_if_ne (M := M_Mm_errs) (pc := 4) h4 (by decide)) ?_
  refine ac (s_vret (M := M_Mm_errs) (pc := 7) h7 rfl) ?_
  refine ac (s_aldn (M := M_Mm_errs) (pc := 8) (k := 0) h8) ?_
  refine ac (s_ildn (M := M_Mm_errs) (pc := 9) (k := 1) h9) ?_
  refine ac (s_puti (M := M_Mm_errs) (pc := 10) (T := TX8) (N := 29) (ty0 := tyX8) h10 ⟨rfl, in_X8, by decide, wd1699, tyX8_ok, nmX8, (Or.inl rfl)⟩ rfl) ?_
  refine ac (s_aldn (M := M_Mm_errs) (pc := 13) (k := 0) h13) ?_
  refine ac (s_aldn (M := M_Mm_errs) (pc := 14) (k := 0) h14) ?_
  refine ac (s_get (M := M_Mm_errs) (pc := 15) (T := TX8) (N := 29) h15 rfl in_X8 (by decide) wd1701) ?_
  refine ac (s_puti (M := M_Mm_errs) (pc := 18) (T := TX8) (N := 29) (ty0 := tyX8) h18 ⟨rfl, in_X8, by decide, wd1700, tyX8_ok, nmX8, (Or.inl rfl)⟩ rfl) ?_
  refine ac (s_vret (M := M_Mm_errs) (pc := 21) h21 rfl) ?_
  exact ac_nil
theorem e0_Mm_goesOn : decode prog_10_method_48_code 0 = .ok (.aload_n 0, 1) ∧ decode prog_10_method_48_code 1 = .ok (.invokevirtual 198, 3) ∧ decode prog_10_method_48_code 4 = .ok (.ifCond .eq 7, 3) ∧ decode prog_10_method_48_code 7 = .ok (.aload_n 0, 1) ∧ decode prog_10_method_48_code 8 = .ok (.invokevirtual 195, 3) ∧ decode prog_10_method_48_code 11 = .ok (.return_, 1) := by decide +kernel
def T_Mm_goesOn : TT := [(0, o_ald 0 1), (1, o_callV M_Mm_isGood 8 1 4), (4, o_if_eq 11 7), (7, o_ald 0 8), (8, o_callV M_Mm_scans 8 1 11), (11, o_vret)]
theorem k_Mm_goesOn : ∀ x ∈ T_Mm_goesOn, SO M_Mm_goesOn x.1 x.2 := by
  obtain ⟨h0, h1, h4, h7, h8, h11⟩ := e0_Mm_goesOn
  refine ac (s_aldn (M := M_Mm_goesOn) (pc := 0) (k := 0) h0) ?_
  refine ac (s_callV (M := M_Mm_goesOn) (pc := 1) (tz_Mm rfl) h1 q_Mm_isGood wd1835 wd1837 wd35 rfl (T := TX8) (N := 29) rfl) ?_
  refine ac (s_if_eq (M := M_Mm_goesOn) (pc := 4) h4 (by decide)) ?_
  refine ac (s_aldn (M := M_Mm_goesOn) (pc := 7) (k := 0) h7) ?_
  refine ac (s_callV (M := M_Mm_goesOn) (pc := 8) (tz_Mm rfl) h8 q_Mm_scans wd1811 wd1813 wd31 rfl (T := TX8) (N := 29) rfl) ?_
  refine ac (s_vret (M := M_Mm_goesOn) (pc := 11) h11 rfl) ?_
  exact ac_nil
theorem e0_Mm_many : decode prog_10_method_5_code 0 = .ok (.aload_n 0, 1) ∧ decode prog_10_method_5_code 1 = .ok (.getfield 13, 3) ∧ decode prog_10_method_5_code 4 = .ok (.iconst 0, 1) ∧ decode prog_10_method_5_code 5 = .ok (.iaload, 1) ∧ decode prog_10_method_5_code 6 = .ok (.ireturn, 1) := by decide +kernel
def T_Mm_many : TT := [(0, o_ald 0 1), (1, o_get 8 1 4), (4, o_push (.int (iI (0))) 5), (5, o_iald 6), (6, o_iret)]
theorem k_Mm_many : ∀ x ∈ T_Mm_many, SO M_Mm_many x.1 x.2 := by
  obtain ⟨h0, h1, h4, h5, h6⟩ := e0_Mm_many
  refine ac (s_aldn (M := M_Mm_many) (pc := 0) (k := 0) h0) ?_
  refine ac (s_get (M := M_Mm_many) (pc := 1) (T := TX8) (N := 29) h1 rfl in_X8 (by decide) wd1690) ?_
  refine ac (s_iconst (M := M_Mm_many) (pc := 4) h4 rfl) ?_
  refine ac (s_iald (M := M_Mm_many) (pc := 5) h5) ?_
  refine ac (s_iret (M := M_Mm_many) (pc := 6) h6 rfl) ?_
  exact ac_nil
theorem e0_Mm_modulusHere : decode prog_10_method_58_code 0 = .ok (.aload_n 0, 1) ∧ decode prog_10_method_58_code 1 = .ok (.getfield 178, 3) ∧ decode prog_10_method_58_code 4 = .ok (.iconst 2, 1) ∧ decode prog_10_method_58_code 5 = .ok (.if_icmp .eq 11, 3) ∧ decode prog_10_method_58_code 8 = .ok (.aload_n 0, 1) ∧ decode prog_10_method_58_code 9 = .ok (.iconst 1, 1) ∧ decode prog_10_method_58_code 10 = .ok (.invokevirtual 214, 3) ∧ decode prog_10_method_58_code 13 = .ok (.goto 78, 3) ∧ decode prog_10_method_58_code 16 = .ok (.aload_n 0, 1) ∧ decode prog_10_method_58_code 17 = .ok (.getfield 189, 3) ∧ decode prog_10_method_58_code 20 = .ok (.i2l, 1) ∧ decode prog_10_method_58_code 21 = .ok (.ldc2_w 76, 3) := by decide +kernel
theorem e1_Mm_modulusHere : decode prog_10_method_58_code 24 = .ok (.ldc2_w 181, 3) ∧ decode prog_10_method_58_code 27 = .ok (.invokestatic 57, 3) ∧ decode prog_10_method_58_code 30 = .ok (.ifCond .eq 20, 3) ∧ decode prog_10_method_58_code 33 = .ok (.aload_n 0, 1) ∧ decode prog_10_method_58_code 34 = .ok (.invokevirtual 93, 3) ∧ decode prog_10_method_58_code 37 = .ok (.aload_n 0, 1) ∧ decode prog_10_method_58_code 38 = .ok (.getfield 189, 3) ∧ decode prog_10_method_58_code 41 = .ok (.i2l, 1) ∧ decode prog_10_method_58_code 42 = .ok (.lmul, 1) ∧ decode prog_10_method_58_code 43 = .ok (.ldc2_w 231, 3) ∧ decode prog_10_method_58_code 46 = .ok (.lcmp, 1) ∧ decode prog_10_method_58_code 47 = .ok (.ifCond .le 11, 3) := by decide +kernel
theorem e2_Mm_modulusHere : decode prog_10_method_58_code 50 = .ok (.aload_n 0, 1) ∧ decode prog_10_method_58_code 51 = .ok (.iconst 2, 1) ∧ decode prog_10_method_58_code 52 = .ok (.invokevirtual 214, 3) ∧ decode prog_10_method_58_code 55 = .ok (.goto 36, 3) ∧ decode prog_10_method_58_code 58 = .ok (.aload_n 0, 1) ∧ decode prog_10_method_58_code 59 = .ok (.aload_n 0, 1) ∧ decode prog_10_method_58_code 60 = .ok (.getfield 189, 3) ∧ decode prog_10_method_58_code 63 = .ok (.invokevirtual 233, 3) ∧ decode prog_10_method_58_code 66 = .ok (.ifCond .eq 11, 3) ∧ decode prog_10_method_58_code 69 = .ok (.aload_n 0, 1) ∧ decode prog_10_method_58_code 70 = .ok (.iconst 4, 1) ∧ decode prog_10_method_58_code 71 = .ok (.invokevirtual 214, 3) := by decide +kernel
theorem e3_Mm_modulusHere : decode prog_10_method_58_code 74 = .ok (.goto 17, 3) ∧ decode prog_10_method_58_code 77 = .ok (.aload_n 0, 1) ∧ decode prog_10_method_58_code 78 = .ok (.invokevirtual 61, 3) ∧ decode prog_10_method_58_code 81 = .ok (.bipush 6, 2) ∧ decode prog_10_method_58_code 83 = .ok (.if_icmp .ne 8, 3) ∧ decode prog_10_method_58_code 86 = .ok (.aload_n 0, 1) ∧ decode prog_10_method_58_code 87 = .ok (.iconst 5, 1) ∧ decode prog_10_method_58_code 88 = .ok (.invokevirtual 214, 3) ∧ decode prog_10_method_58_code 91 = .ok (.aload_n 0, 1) ∧ decode prog_10_method_58_code 92 = .ok (.invokevirtual 198, 3) ∧ decode prog_10_method_58_code 95 = .ok (.ifCond .ne 4, 3) ∧ decode prog_10_method_58_code 98 = .ok (.return_, 1) := by decide +kernel
theorem e4_Mm_modulusHere : decode prog_10_method_58_code 99 = .ok (.aload_n 0, 1) ∧ decode prog_10_method_58_code 100 = .ok (.getfield 13, 3) ∧ decode prog_10_method_58_code 103 = .ok (.bipush 11, 2) ∧ decode prog_10_method_58_code 105 = .ok (.aload_n 0, 1) ∧ decode prog_10_method_58_code 106 = .ok (.invokevirtual 61, 3) ∧ decode prog_10_method_58_code 109 = .ok (.iadd, 1) ∧ decode prog_10_method_58_code 110 = .ok (.aload_n 0, 1) ∧ decode prog_10_method_58_code 111 = .ok (.getfield 189, 3) ∧ decode prog_10_method_58_code 114 = .ok (.iastore, 1) ∧ decode prog_10_method_58_code 115 = .ok (.aload_n 0, 1) ∧ decode prog_10_method_58_code 116 = .ok (.getfield 13, 3) ∧ decode prog_10_method_58_code 119 = .ok (.iconst 0, 1) := by decide +kernel
theorem e5_Mm_modulusHere : decode prog_10_method_58_code 120 = .ok (.aload_n 0, 1) ∧ decode prog_10_method_58_code 121 = .ok (.invokevirtual 61, 3) ∧ decode prog_10_method_58_code 124 = .ok (.iconst 1, 1) ∧ decode prog_10_method_58_code 125 = .ok (.iadd, 1) ∧ decode prog_10_method_58_code 126 = .ok (.iastore, 1) ∧ decode prog_10_method_58_code 127 = .ok (.aload_n 0, 1) ∧ decode prog_10_method_58_code 128 = .ok (.invokevirtual 195, 3) ∧ decode prog_10_method_58_code 131 = .ok (.return_, 1) := by decide +kernel
def T_Mm_modulusHere : TT := [(0, o_ald 0 1), (1, o_get 8 14 4), (4, o_push (.int (iI (2))) 5), (5, o_icmp_eq 16 8), (8, o_ald 0 9), (9, o_push (.int (iI (1))) 10), (10, o_callV M_Mm_errs 8 2 13), (13, o_goto 91), (16, o_ald 0 17), (17, o_get 8 15 20), (20, o_i2l 21), (21, o_push (.long (lI (2))) 24), (24, o_push (.long (lI (97))) 27), (27, o_call M_Mm_isIn 3 30), (30, o_if_eq 50 33), (33, o_ald 0 34), (34, o_callV M_Mm_whole 8 1 37), (37, o_ald 0 38), (38, o_get 8 15 41), (41, o_i2l 42), (42, o_lmul 43), (43, o_push (.long (lI (1000000000))) 46), (46, o_lc_le 58 50), (50, o_ald 0 51), (51, o_push (.int (iI (2))) 52), (52, o_callV M_Mm_errs 8 2 55), (55, o_goto 91), (58, o_ald 0 59), (59, o_ald 0 60), (60, o_get 8 15 63), (63, o_callV M_Mm_isCommon 8 2 66), (66, o_if_eq 77 69), (69, o_ald 0 70), (70, o_push (.int (iI (4))) 71), (71, o_callV M_Mm_errs 8 2 74), (74, o_goto 91), (77, o_ald 0 78), (78, o_callV M_Mm_many 8 1 81), (81, o_push (.int (iI (6))) 83), (83, o_icmp_ne 91 86), (86, o_ald 0 87), (87, o_push (.int (iI (5))) 88), (88, o_callV M_Mm_errs 8 2 91), (91, o_ald 0 92), (92, o_callV M_Mm_isGood 8 1 95), (95, o_if_ne 99 98), (98, o_vret), (99, o_ald 0 100), (100, o_get 8 1 103), (103, o_push (.int (iI (11))) 105), (105, o_ald 0 106), (106, o_callV M_Mm_many 8 1 109), (109, o_iadd 110), (110, o_ald 0 111), (111, o_get 8 15 114), (114, o_iast 115), (115, o_ald 0 116), (116, o_get 8 1 119), (119, o_push (.int (iI (0))) 120), (120, o_ald 0 121), (121, o_callV M_Mm_many 8 1 124), (124, o_push (.int (iI (1))) 125), (125, o_iadd 126), (126, o_iast 127), (127, o_ald 0 128), (128, o_callV M_Mm_scans 8 1 131), (131, o_vret)]
theorem k_Mm_modulusHere : ∀ x ∈ T_Mm_modulusHere, SO M_Mm_modulusHere x.1 x.2 := by
  obtain ⟨h0, h1, h4, h5, h8, h9, h10, h13, h16, h17, h20, h21⟩ := e0_Mm_modulusHere
  obtain ⟨h24, h27, h30, h33, h34, h37, h38, h41, h42, h43, h46, h47⟩ := e1_Mm_modulusHere
  obtain ⟨h50, h51, h52, h55, h58, h59, h60, h63, h66, h69, h70, h71⟩ := e2_Mm_modulusHere
  obtain ⟨h74, h77, h78, h81, h83, h86, h87, h88, h91, h92, h95, h98⟩ := e3_Mm_modulusHere
  obtain ⟨h99, h100, h103, h105, h106, h109, h110, h111, h114, h115, h116, h119⟩ := e4_Mm_modulusHere
  obtain ⟨h120, h121, h124, h125, h126, h127, h128, h131⟩ := e5_Mm_modulusHere
  refine ac (s_aldn (M := M_Mm_modulusHere) (pc := 0) (k := 0) h0) ?_
  refine ac (s_get (M := M_Mm_modulusHere) (pc := 1) (T := TX8) (N := 29) h1 rfl in_X8 (by decide) wd1703) ?_
  refine ac (s_iconst (M := M_Mm_modulusHere) (pc := 4) h4 rfl) ?_
  refine ac (s_icmp_eq (M := M_Mm_modulusHere) (pc := 5) h5 (by decide)) ?_
  refine ac (s_aldn (M := M_Mm_modulusHere) (pc := 8) (k := 0) h8) ?_
  refine ac (s_iconst (M := M_Mm_modulusHere) (pc := 9) h9 rfl) ?_
  refine ac (s_callV (M := M_Mm_modulusHere) (pc := 10) (tz_Mm rfl) h10 q_Mm_errs wd1841 wd1843 wd36 rfl (T := TX8) (N := 29) rfl) ?_
  refine ac (s_goto (M := M_Mm_modulusHere) (pc := 13) h13 (by decide)) ?_
  refine ac (s_aldn (M := M_Mm_modulusHere) (pc := 16) (k := 0) h16) ?_
  refine ac (s_get (M := M_Mm_modulusHere) (pc := 17) (T := TX8) (N := 29) h17 rfl in_X8 (by decide) wd1704) ?_
  refine ac (s_i2l (M := M_Mm_modulusHere) (pc := 20) h20) ?_
  refine ac (s_ldc2 (M := M_Mm_modulusHere) (pc := 21) h21 wd1857) ?_
  refine ac (s_ldc2 (M := M_Mm_modulusHere) (pc := 24) h24 wd1819) ?_
  refine ac (s_callS (M := M_Mm_modulusHere) (pc := 27) (tz_Mm rfl) h27 q_Mm_isIn wd1789 wd1790) ?_
  refine ac (s_if_eq (M := M_Mm_modulusHere) (pc := 30) h30 (by decide)) ?_
  refine ac (s_aldn (M := M_Mm_modulusHere) (pc := 33) (k := 0) h33) ?_
  refine ac (s_callV (M := M_Mm_modulusHere) (pc := 34) (tz_Mm rfl) h34 q_Mm_whole wd1858 wd1860 wd40 rfl (T := TX8) (N := 29) rfl) ?_
  refine ac (s_aldn (M := M_Mm_modulusHere) (pc := 37) (k := 0) h37) ?_
  refine ac (s_get (M := M_Mm_modulusHere) (pc := 38) (T := TX8) (N := 29) h38 rfl in_X8 (by decide) wd1704) ?_
  refine ac (s_i2l (M := M_Mm_modulusHere) (pc := 41) h41) ?_
  refine ac (s_lmul (M := M_Mm_modulusHere) (pc := 42) h42) ?_
  refine ac (s_ldc2 (M := M_Mm_modulusHere) (pc := 43) h43 wd1870) ?_
  refine ac (s_lc_le (M := M_Mm_modulusHere) (pc := 46) h46 h47 (by decide)) ?_
  refine ac (s_aldn (M := M_Mm_modulusHere) (pc := 50) (k := 0) h50) ?_
  refine ac (s_iconst (M := M_Mm_modulusHere) (pc := 51) h51 rfl) ?_
  refine ac (s_callV (M := M_Mm_modulusHere) (pc := 52) (tz_Mm rfl) h52 q_Mm_errs wd1841 wd1843 wd36 rfl (T := TX8) (N := 29) rfl) ?_
  refine ac (s_goto (M := M_Mm_modulusHere) (pc := 55) h55 (by decide)) ?_
  refine ac (s_aldn (M := M_Mm_modulusHere) (pc := 58) (k := 0) h58) ?_
  refine ac (s_aldn (M := M_Mm_modulusHere) (pc := 59) (k := 0) h59) ?_
  refine ac (s_get (M := M_Mm_modulusHere) (pc := 60) (T := TX8) (N := 29) h60 rfl in_X8 (by decide) wd1704) ?_
  refine ac (s_callV (M := M_Mm_modulusHere) (pc := 63) (tz_Mm rfl) h63 q_Mm_isCommon wd1871 wd1873 wd43 rfl (T := TX8) (N := 29) rfl) ?_
  refine ac (s_if_eq (M := M_Mm_modulusHere) (pc := 66) h66 (by decide)) ?_
  refine ac (s_aldn (M := M_Mm_modulusHere) (pc := 69) (k := 0) h69) ?_
  refine ac (s_iconst (M := M_Mm_modulusHere) (pc := 70) h70 rfl) ?_
  refine ac (s_callV (M := M_Mm_modulusHere) (pc := 71) (tz_Mm rfl) h71 q_Mm_errs wd1841 wd1843 wd36 rfl (T := TX8) (N := 29) rfl) ?_
  refine ac (s_goto (M := M_Mm_modulusHere) (pc := 74) h74 (by decide)) ?_
  refine ac (s_aldn (M := M_Mm_modulusHere) (pc := 77) (k := 0) h77) ?_
  refine ac (s_callV (M := M_Mm_modulusHere) (pc := 78) (tz_Mm rfl) h78 q_Mm_many wd1849 wd1851 wd38 rfl (T := TX8) (N := 29) rfl) ?_
  refine ac (s_bipush (M := M_Mm_modulusHere) (pc := 81) h81 (by decide)) ?_
  refine ac (s_icmp_ne (M := M_Mm_modulusHere) (pc := 83) h83 (by decide)) ?_
  refine ac (s_aldn (M := M_Mm_modulusHere) (pc := 86) (k := 0) h86) ?_
  refine ac (s_iconst (M := M_Mm_modulusHere) (pc := 87) h87 rfl) ?_
  refine ac (s_callV (M := M_Mm_modulusHere) (pc := 88) (tz_Mm rfl) h88 q_Mm_errs wd1841 wd1843 wd36 rfl (T := TX8) (N := 29) rfl) ?_
  refine ac (s_aldn (M := M_Mm_modulusHere) (pc := 91) (k := 0) h91) ?_
  refine ac (s_callV (M := M_Mm_modulusHere) (pc := 92) (tz_Mm rfl) h92 q_Mm_isGood wd1835 wd1837 wd35 rfl (T := TX8) (N := 29) rfl) ?_
  refine ac (s_if_ne (M := M_Mm_modulusHere) (pc := 95) h95 (by decide)) ?_
  refine ac (s_vret (M := M_Mm_modulusHere) (pc := 98) h98 rfl) ?_
  refine ac (s_aldn (M := M_Mm_modulusHere) (pc := 99) (k := 0) h99) ?_
  refine ac (s_get (M := M_Mm_modulusHere) (pc := 100) (T := TX8) (N := 29) h100 rfl in_X8 (by decide) wd1690) ?_
  refine ac (s_bipush (M := M_Mm_modulusHere) (pc := 103) h103 (by decide)) ?_
  refine ac (s_aldn (M := M_Mm_modulusHere) (pc := 105) (k := 0) h105) ?_
  refine ac (s_callV (M := M_Mm_modulusHere) (pc := 106) (tz_Mm rfl) h106 q_Mm_many wd1849 wd1851 wd38 rfl (T := TX8) (N := 29) rfl) ?_
  refine ac (s_iadd (M := M_Mm_modulusHere) (pc := 109) h109) ?_
  refine ac (s_aldn (M := M_Mm_modulusHere) (pc := 110) (k := 0) h110) ?_
  refine ac (s_get (M := M_Mm_modulusHere) (pc := 111) (T := TX8) (N := 29) h111 rfl in_X8 (by decide) wd1704) ?_
  refine ac (s_iast (M := M_Mm_modulusHere) (pc := 114) h114) ?_
  refine ac (s_aldn (M := M_Mm_modulusHere) (pc := 115) (k := 0) h115) ?_
  refine ac (s_get (M := M_Mm_modulusHere) (pc := 116) (T := TX8) (N := 29) h116 rfl in_X8 (by decide) wd1690) ?_
  refine ac (s_iconst (M := M_Mm_modulusHere) (pc := 119) h119 rfl) ?_
  refine ac (s_aldn (M := M_Mm_modulusHere) (pc := 120) (k := 0) h120) ?_
  refine ac (s_callV (M := M_Mm_modulusHere) (pc := 121) (tz_Mm rfl) h121 q_Mm_many wd1849 wd1851 wd38 rfl (T := TX8) (N := 29) rfl) ?_
  refine ac (s_iconst (M := M_Mm_modulusHere) (pc := 124) h124 rfl) ?_
  refine ac (s_iadd (M := M_Mm_modulusHere) (pc := 125) h125) ?_
  refine ac (s_iast (M := M_Mm_modulusHere) (pc := 126) h126) ?_
  refine ac (s_aldn (M := M_Mm_modulusHere) (pc := 127) (k := 0) h127) ?_
  refine ac (s_callV (M := M_Mm_modulusHere) (pc := 128) (tz_Mm rfl) h128 q_Mm_scans wd1811 wd1813 wd31 rfl (T := TX8) (N := 29) rfl) ?_
  refine ac (s_vret (M := M_Mm_modulusHere) (pc := 131) h131 rfl) ?_
  exact ac_nil
theorem e0_Mm_whole : decode prog_10_method_11_code 0 = .ok (.aload_n 0, 1) ∧ decode prog_10_method_11_code 1 = .ok (.aload_n 0, 1) ∧ decode prog_10_method_11_code 2 = .ok (.invokevirtual 61, 3) ∧ decode prog_10_method_11_code 5 = .ok (.invokevirtual 69, 3) ∧ decode prog_10_method_11_code 8 = .ok (.lreturn, 1) := by decide +kernel
def T_Mm_whole : TT := [(0, o_ald 0 1), (1, o_ald 0 2), (2, o_callV M_Mm_many 8 1 5), (5, o_callV M_Mm_productOf 8 2 8), (8, o_lret)]
theorem k_Mm_whole : ∀ x ∈ T_Mm_whole, SO M_Mm_whole x.1 x.2 := by
  obtain ⟨h0, h1, h2, h5, h8⟩ := e0_Mm_whole
  refine ac (s_aldn (M := M_Mm_whole) (pc := 0) (k := 0) h0) ?_
  refine ac (s_aldn (M := M_Mm_whole) (pc := 1) (k := 0) h1) ?_
  refine ac (s_callV (M := M_Mm_whole) (pc := 2) (tz_Mm rfl) h2 q_Mm_many wd1849 wd1851 wd38 rfl (T := TX8) (N := 29) rfl) ?_
  refine ac (s_callV (M := M_Mm_whole) (pc := 5) (tz_Mm rfl) h5 q_Mm_productOf wd1862 wd1864 wd41 rfl (T := TX8) (N := 29) rfl) ?_
  refine ac (s_lret (M := M_Mm_whole) (pc := 8) h8 rfl) ?_
  exact ac_nil
theorem e0_Mm_productOf : decode prog_10_method_10_code 0 = .ok (.lconst 1, 1) ∧ decode prog_10_method_10_code 1 = .ok (.lstore_n 2, 1) ∧ decode prog_10_method_10_code 2 = .ok (.iconst 0, 1) ∧ decode prog_10_method_10_code 3 = .ok (.istore 4, 2) ∧ decode prog_10_method_10_code 5 = .ok (.iload 4, 2) ∧ decode prog_10_method_10_code 7 = .ok (.iload_n 1, 1) ∧ decode prog_10_method_10_code 8 = .ok (.if_icmp .ge 19, 3) ∧ decode prog_10_method_10_code 11 = .ok (.lload_n 2, 1) ∧ decode prog_10_method_10_code 12 = .ok (.aload_n 0, 1) ∧ decode prog_10_method_10_code 13 = .ok (.iload 4, 2) ∧ decode prog_10_method_10_code 15 = .ok (.invokevirtual 65, 3) ∧ decode prog_10_method_10_code 18 = .ok (.i2l, 1) := by decide +kernel
theorem e1_Mm_productOf : decode prog_10_method_10_code 19 = .ok (.lmul, 1) ∧ decode prog_10_method_10_code 20 = .ok (.lstore_n 2, 1) ∧ decode prog_10_method_10_code 21 = .ok (.iinc 4 1, 3) ∧ decode prog_10_method_10_code 24 = .ok (.goto (-19), 3) ∧ decode prog_10_method_10_code 27 = .ok (.lload_n 2, 1) ∧ decode prog_10_method_10_code 28 = .ok (.lreturn, 1) := by decide +kernel
def T_Mm_productOf : TT := [(0, o_push (.long (lI 1)) 1), (1, o_lst 2 2), (2, o_push (.int (iI (0))) 3), (3, o_ist 4 5), (5, o_ild 4 7), (7, o_ild 1 8), (8, o_icmp_ge 27 11), (11, o_lld 2 12), (12, o_ald 0 13), (13, o_ild 4 15), (15, o_callV M_Mm_mod 8 2 18), (18, o_i2l 19), (19, o_lmul 20), (20, o_lst 2 21), (21, o_iinc 4 (iI (1)) 24), (24, o_goto 5), (27, o_lld 2 28), (28, o_lret)]
theorem k_Mm_productOf : ∀ x ∈ T_Mm_productOf, SO M_Mm_productOf x.1 x.2 := by
  obtain ⟨h0, h1, h2, h3, h5, h7, h8, h11, h12, h13, h15, h18⟩ := e0_Mm_productOf
  obtain ⟨h19, h20, h21, h24, h27, h28⟩ := e1_Mm_productOf
  refine ac (s_lconst (M := M_Mm_productOf) (pc := 0) h0 (by decide)) ?_
  refine ac (s_lstn (M := M_Mm_productOf) (pc := 1) (k := 2) h1 (by decide)) ?_
  refine ac (s_iconst (M := M_Mm_productOf) (pc := 2) h2 rfl) ?_
  refine ac (s_ist (M := M_Mm_productOf) (pc := 3) h3 (by decide)) ?_
  refine ac (s_ild (M := M_Mm_productOf) (pc := 5) h5) ?_
  refine ac (s_ildn (M := M_Mm_productOf) (pc := 7) (k := 1) h7) ?_
  refine ac (s_icmp_ge (M := M_Mm_productOf) (pc := 8) h8 (by decide)) ?_
  refine ac (s_lldn (M := M_Mm_productOf) (pc := 11) (k := 2) h11) ?_
  refine ac (s_aldn (M := M_Mm_productOf) (pc := 12) (k := 0) h12) ?_
  refine ac (s_ild (M := M_Mm_productOf) (pc := 13) h13) ?_
  refine ac (s_callV (M := M_Mm_productOf) (pc := 15) (tz_Mm rfl) h15 q_Mm_mod wd1866 wd1868 wd42 rfl (T := TX8) (N := 29) rfl) ?_
  refine ac (s_i2l (M := M_Mm_productOf) (pc := 18) h18) ?_
  refine ac (s_lmul (M := M_Mm_productOf) (pc := 19) h19) ?_
  refine ac (s_lstn (M := M_Mm_productOf) (pc := 20) (k := 2) h20 (by decide)) ?_
  refine ac (s_iinc (M := M_Mm_productOf) (pc := 21) h21 rfl (by decide)) ?_
  refine ac (s_goto (M := M_Mm_productOf) (pc := 24) h24 (by decide)) ?_
  refine ac (s_lldn (M := M_Mm_productOf) (pc := 27) (k := 2) h27) ?_
  refine ac (s_lret (M := M_Mm_productOf) (pc := 28) h28 rfl) ?_
  exact ac_nil
theorem e0_Mm_mod : decode prog_10_method_7_code 0 = .ok (.aload_n 0, 1) ∧ decode prog_10_method_7_code 1 = .ok (.getfield 13, 3) ∧ decode prog_10_method_7_code 4 = .ok (.bipush 11, 2) ∧ decode prog_10_method_7_code 6 = .ok (.iload_n 1, 1) ∧ decode prog_10_method_7_code 7 = .ok (.iadd, 1) ∧ decode prog_10_method_7_code 8 = .ok (.iaload, 1) ∧ decode prog_10_method_7_code 9 = .ok (.ireturn, 1) := by decide +kernel
def T_Mm_mod : TT := [(0, o_ald 0 1), (1, o_get 8 1 4), (4, o_push (.int (iI (11))) 6), (6, o_ild 1 7), (7, o_iadd 8), (8, o_iald 9), (9, o_iret)]
theorem k_Mm_mod : ∀ x ∈ T_Mm_mod, SO M_Mm_mod x.1 x.2 := by
  obtain ⟨h0, h1, h4, h6, h7, h8, h9⟩ := e0_Mm_mod
  refine ac (s_aldn (M := M_Mm_mod) (pc := 0) (k := 0) h0) ?_
  refine ac (s_get (M := M_Mm_mod) (pc := 1) (T := TX8) (N := 29) h1 rfl in_X8 (by decide) wd1690) ?_
  refine ac (s_bipush (M := M_Mm_mod) (pc := 4) h4 (by decide)) ?_
  refine ac (s_ildn (M := M_Mm_mod) (pc := 6) (k := 1) h6) ?_
  refine ac (s_iadd (M := M_Mm_mod) (pc := 7) h7) ?_
  refine ac (s_iald (M := M_Mm_mod) (pc := 8) h8) ?_
  refine ac (s_iret (M := M_Mm_mod) (pc := 9) h9 rfl) ?_
  exact ac_nil
theorem e0_Mm_isCommon : decode prog_10_method_57_code 0 = .ok (.iconst 0, 1) ∧ decode prog_10_method_57_code 1 = .ok (.istore_n 2, 1) ∧ decode prog_10_method_57_code 2 = .ok (.iload_n 2, 1) ∧ decode prog_10_method_57_code 3 = .ok (.aload_n 0, 1) ∧ decode prog_10_method_57_code 4 = .ok (.invokevirtual 61, 3) ∧ decode prog_10_method_57_code 7 = .ok (.if_icmp .ge 24, 3) ∧ decode prog_10_method_57_code 10 = .ok (.aload_n 0, 1) ∧ decode prog_10_method_57_code 11 = .ok (.iload_n 2, 1) ∧ decode prog_10_method_57_code 12 = .ok (.invokevirtual 65, 3) ∧ decode prog_10_method_57_code 15 = .ok (.iload_n 1, 1) ∧ decode prog_10_method_57_code 16 = .ok (.invokestatic 228, 3) ∧ decode prog_10_method_57_code 19 = .ok (.iconst 1, 1) := by decide +kernel
theorem e1_Mm_isCommon : decode prog_10_method_57_code 20 = .ok (.if_icmp .le 5, 3) ∧ decode prog_10_method_57_code 23 = .ok (.iconst 1, 1) ∧ decode prog_10_method_57_code 24 = .ok (.ireturn, 1) ∧ decode prog_10_method_57_code 25 = .ok (.iinc 2 1, 3) ∧ decode prog_10_method_57_code 28 = .ok (.goto (-26), 3) ∧ decode prog_10_method_57_code 31 = .ok (.iconst 0, 1) ∧ decode prog_10_method_57_code 32 = .ok (.ireturn, 1) := by decide +kernel
def T_Mm_isCommon : TT := [(0, o_push (.int (iI (0))) 1), (1, o_ist 2 2), (2, o_ild 2 3), (3, o_ald 0 4), (4, o_callV M_Mm_many 8 1 7), (7, o_icmp_ge 31 10), (10, o_ald 0 11), (11, o_ild 2 12), (12, o_callV M_Mm_mod 8 2 15), (15, o_ild 1 16), (16, o_call M_Mm_divisor 2 19), (19, o_push (.int (iI (1))) 20), (20, o_icmp_le 25 23), (23, o_push (.int (iI (1))) 24), (24, o_zret), (25, o_iinc 2 (iI (1)) 28), (28, o_goto 2), (31, o_push (.int (iI (0))) 32), (32, o_zret)]
theorem k_Mm_isCommon : ∀ x ∈ T_Mm_isCommon, SO M_Mm_isCommon x.1 x.2 := by
  obtain ⟨h0, h1, h2, h3, h4, h7, h10, h11, h12, h15, h16, h19⟩ := e0_Mm_isCommon
  obtain ⟨h20, h23, h24, h25, h28, h31, h32⟩ := e1_Mm_isCommon
  refine ac (s_iconst (M := M_Mm_isCommon) (pc := 0) h0 rfl) ?_
  refine ac (s_istn (M := M_Mm_isCommon) (pc := 1) (k := 2) h1 (by decide)) ?_
  refine ac (s_ildn (M := M_Mm_isCommon) (pc := 2) (k := 2) h2) ?_
  refine ac (s_aldn (M := M_Mm_isCommon) (pc := 3) (k := 0) h3) ?_
  refine ac (s_callV (M := M_Mm_isCommon) (pc := 4) (tz_Mm rfl) h4 q_Mm_many wd1849 wd1851 wd38 rfl (T := TX8) (N := 29) rfl) ?_
  refine ac (s_icmp_ge (M := M_Mm_isCommon) (pc := 7) h7 (by decide)) ?_
  refine ac (s_aldn (M := M_Mm_isCommon) (pc := 10) (k := 0) h10) ?_
  refine ac (s_ildn (M := M_Mm_isCommon) (pc := 11) (k := 2) h11) ?_
  refine ac (s_callV (M := M_Mm_isCommon) (pc := 12) (tz_Mm rfl) h12 q_Mm_mod wd1866 wd1868 wd42 rfl (T := TX8) (N := 29) rfl) ?_
  refine ac (s_ildn (M := M_Mm_isCommon) (pc := 15) (k := 1) h15) ?_
  refine ac (s_callS (M := M_Mm_isCommon) (pc := 16) (tz_Mm rfl) h16 q_Mm_divisor wd1875 wd1876) ?_
  refine ac (s_iconst (M := M_Mm_isCommon) (pc := 19) h19 rfl) ?_
  refine ac (s_icmp_le (M := M_Mm_isCommon) (pc := 20) h20 (by decide)) ?_
  refine ac (s_iconst (M := M_Mm_isCommon) (pc := 23) h23 rfl) ?_
  refine ac (s_zret (M := M_Mm_isCommon) (pc := 24) h24 rfl) ?_
  refine ac (s_iinc (M := M_Mm_isCommon) (pc := 25) h25 rfl (by decide)) ?_
  refine ac (s_goto (M := M_Mm_isCommon) (pc := 28) h28 (by decide)) ?_
  refine ac (s_iconst (M := M_Mm_isCommon) (pc := 31) h31 rfl) ?_
  refine ac (s_zret (M := M_Mm_isCommon) (pc := 32) h32 rfl) ?_
  exact ac_nil
theorem e0_Mm_divisor : decode prog_10_method_56_code 0 = .ok (.iload_n 1, 1) ∧ decode prog_10_method_56_code 1 = .ok (.ifCond .ne 7, 3) ∧ decode prog_10_method_56_code 4 = .ok (.iload_n 0, 1) ∧ decode prog_10_method_56_code 5 = .ok (.goto 10, 3) ∧ decode prog_10_method_56_code 8 = .ok (.iload_n 1, 1) ∧ decode prog_10_method_56_code 9 = .ok (.iload_n 0, 1) ∧ decode prog_10_method_56_code 10 = .ok (.iload_n 1, 1) ∧ decode prog_10_method_56_code 11 = .ok (.irem, 1) ∧ decode prog_10_method_56_code 12 = .ok (.invokestatic 228, 3) ∧ decode prog_10_method_56_code 15 = .ok (.ireturn, 1) := by decide +kernel
def T_Mm_divisor : TT := [(0, o_ild 1 1), (1, o_if_ne 8 4), (4, o_ild 0 5), (5, o_goto 15), (8, o_ild 1 9), (9, o_ild 0 10), (10, o_ild 1 11), (11, o_irem 12), (12, o_call M_Mm_divisor 2 15), (15, o_iret)]
theorem k_Mm_divisor : ∀ x ∈ T_Mm_divisor, SO M_Mm_divisor x.1 x.2 := by
  obtain ⟨h0, h1, h4, h5, h8, h9, h10, h11, h12, h15⟩ := e0_Mm_divisor
  refine ac (s_ildn (M := M_Mm_divisor) (pc := 0) (k := 1) h0) ?_
  refine ac (s_if_ne (M := M_Mm_divisor) (pc := 1) h1 (by decide)) ?_
  refine ac (s_ildn (M := M_Mm_divisor) (pc := 4) (k := 0) h4) ?_
  refine ac (s_goto (M := M_Mm_divisor) (pc := 5) h5 (by decide)) ?_
  refine ac (s_ildn (M := M_Mm_divisor) (pc := 8) (k := 1) h8) ?_
  refine ac (s_ildn (M := M_Mm_divisor) (pc := 9) (k := 0) h9) ?_
  refine ac (s_ildn (M := M_Mm_divisor) (pc := 10) (k := 1) h10) ?_
  refine ac (s_irem (M := M_Mm_divisor) (pc := 11) h11) ?_
  refine ac (s_callS (M := M_Mm_divisor) (pc := 12) (tz_Mm rfl) h12 q_Mm_divisor wd1875 wd1876) ?_
  refine ac (s_iret (M := M_Mm_divisor) (pc := 15) h15 rfl) ?_
  exact ac_nil
theorem e0_Mm_sign : decode prog_10_method_51_code 0 = .ok (.aload_n 0, 1) ∧ decode prog_10_method_51_code 1 = .ok (.iload_n 1, 1) ∧ decode prog_10_method_51_code 2 = .ok (.invokevirtual 211, 3) ∧ decode prog_10_method_51_code 5 = .ok (.ifCond .ne 8, 3) ∧ decode prog_10_method_51_code 8 = .ok (.aload_n 0, 1) ∧ decode prog_10_method_51_code 9 = .ok (.iconst 1, 1) ∧ decode prog_10_method_51_code 10 = .ok (.invokevirtual 214, 3) ∧ decode prog_10_method_51_code 13 = .ok (.aload_n 0, 1) ∧ decode prog_10_method_51_code 14 = .ok (.invokevirtual 217, 3) ∧ decode prog_10_method_51_code 17 = .ok (.return_, 1) := by decide +kernel
def T_Mm_sign : TT := [(0, o_ald 0 1), (1, o_ild 1 2), (2, o_callV M_Mm_isSign 8 2 5), (5, o_if_ne 13 8), (8, o_ald 0 9), (9, o_push (.int (iI (1))) 10), (10, o_callV M_Mm_errs 8 2 13), (13, o_ald 0 14), (14, o_callV M_Mm_goesOn 8 1 17), (17, o_vret)]
theorem k_Mm_sign : ∀ x ∈ T_Mm_sign, SO M_Mm_sign x.1 x.2 := by
  obtain ⟨h0, h1, h2, h5, h8, h9, h10, h13, h14, h17⟩ := e0_Mm_sign
  refine ac (s_aldn (M := M_Mm_sign) (pc := 0) (k := 0) h0) ?_
  refine ac (s_ildn (M := M_Mm_sign) (pc := 1) (k := 1) h1) ?_
  refine ac (s_callV (M := M_Mm_sign) (pc := 2) (tz_Mm rfl) h2 q_Mm_isSign wd1882 wd1884 wd45 rfl (T := TX8) (N := 29) rfl) ?_
  refine ac (s_if_ne (M := M_Mm_sign) (pc := 5) h5 (by decide)) ?_
  refine ac (s_aldn (M := M_Mm_sign) (pc := 8) (k := 0) h8) ?_
  refine ac (s_iconst (M := M_Mm_sign) (pc := 9) h9 rfl) ?_
  refine ac (s_callV (M := M_Mm_sign) (pc := 10) (tz_Mm rfl) h10 q_Mm_errs wd1841 wd1843 wd36 rfl (T := TX8) (N := 29) rfl) ?_
  refine ac (s_aldn (M := M_Mm_sign) (pc := 13) (k := 0) h13) ?_
  refine ac (s_callV (M := M_Mm_sign) (pc := 14) (tz_Mm rfl) h14 q_Mm_goesOn wd1845 wd1847 wd37 rfl (T := TX8) (N := 29) rfl) ?_
  refine ac (s_vret (M := M_Mm_sign) (pc := 17) h17 rfl) ?_
  exact ac_nil
theorem e0_Mm_isSign : decode prog_10_method_50_code 0 = .ok (.aload_n 0, 1) ∧ decode prog_10_method_50_code 1 = .ok (.invokevirtual 198, 3) ∧ decode prog_10_method_50_code 4 = .ok (.ifCond .eq 27, 3) ∧ decode prog_10_method_50_code 7 = .ok (.aload_n 0, 1) ∧ decode prog_10_method_50_code 8 = .ok (.getfield 178, 3) ∧ decode prog_10_method_50_code 11 = .ok (.iconst 3, 1) ∧ decode prog_10_method_50_code 12 = .ok (.if_icmp .ne 19, 3) ∧ decode prog_10_method_50_code 15 = .ok (.aload_n 0, 1) ∧ decode prog_10_method_50_code 16 = .ok (.aload_n 0, 1) ∧ decode prog_10_method_50_code 17 = .ok (.getfield 175, 3) ∧ decode prog_10_method_50_code 20 = .ok (.invokevirtual 172, 3) ∧ decode prog_10_method_50_code 23 = .ok (.iload_n 1, 1) := by decide +kernel
theorem e1_Mm_isSign : decode prog_10_method_50_code 24 = .ok (.if_icmp .ne 7, 3) ∧ decode prog_10_method_50_code 27 = .ok (.iconst 1, 1) ∧ decode prog_10_method_50_code 28 = .ok (.goto 4, 3) ∧ decode prog_10_method_50_code 31 = .ok (.iconst 0, 1) ∧ decode prog_10_method_50_code 32 = .ok (.ireturn, 1) := by decide +kernel
def T_Mm_isSign : TT := [(0, o_ald 0 1), (1, o_callV M_Mm_isGood 8 1 4), (4, o_if_eq 31 7), (7, o_ald 0 8), (8, o_get 8 14 11), (11, o_push (.int (iI (3))) 12), (12, o_icmp_ne 31 15), (15, o_ald 0 16), (16, o_ald 0 17), (17, o_get 8 12 20), (20, o_callV M_Mm_byteAt 8 2 23), (23, o_ild 1 24), (24, o_icmp_ne 31 27), (27, o_push (.int (iI (1))) 28), (28, o_goto 32), (31, o_push (.int (iI (0))) 32), (32, o_zret)]
theorem k_Mm_isSign : ∀ x ∈ T_Mm_isSign, SO M_Mm_isSign x.1 x.2 := by
  obtain ⟨h0, h1, h4, h7, h8, h11, h12, h15, h16, h17, h20, h23⟩ := e0_Mm_isSign
  obtain ⟨h24, h27, h28, h31, h32⟩ := e1_Mm_isSign
  refine ac (s_aldn (M := M_Mm_isSign) (pc := 0) (k := 0) h0) ?_
  refine ac (s_callV (M := M_Mm_isSign) (pc := 1) (tz_Mm rfl) h1 q_Mm_isGood wd1835 wd1837 wd35 rfl (T := TX8) (N := 29) rfl) ?_
  refine ac (s_if_eq (M := M_Mm_isSign) (pc := 4) h4 (by decide)) ?_
  refine ac (s_aldn (M := M_Mm_isSign) (pc := 7) (k := 0) h7) ?_
  refine ac (s_get (M := M_Mm_isSign) (pc := 8) (T := TX8) (N := 29) h8 rfl in_X8 (by decide) wd1703) ?_
  refine ac (s_iconst (M := M_Mm_isSign) (pc := 11) h11 rfl) ?_
  refine ac (s_icmp_ne (M := M_Mm_isSign) (pc := 12) h12 (by decide)) ?_
  refine ac (s_aldn (M := M_Mm_isSign) (pc := 15) (k := 0) h15) ?_
  refine ac (s_aldn (M := M_Mm_isSign) (pc := 16) (k := 0) h16) ?_
  refine ac (s_get (M := M_Mm_isSign) (pc := 17) (T := TX8) (N := 29) h17 rfl in_X8 (by decide) wd1701) ?_
  refine ac (s_callV (M := M_Mm_isSign) (pc := 20) (tz_Mm rfl) h20 q_Mm_byteAt wd1815 wd1817 wd32 rfl (T := TX8) (N := 29) rfl) ?_
  refine ac (s_ildn (M := M_Mm_isSign) (pc := 23) (k := 1) h23) ?_
  refine ac (s_icmp_ne (M := M_Mm_isSign) (pc := 24) h24 (by decide)) ?_
  refine ac (s_iconst (M := M_Mm_isSign) (pc := 27) h27 rfl) ?_
  refine ac (s_goto (M := M_Mm_isSign) (pc := 28) h28 (by decide)) ?_
  refine ac (s_iconst (M := M_Mm_isSign) (pc := 31) h31 rfl) ?_
  refine ac (s_zret (M := M_Mm_isSign) (pc := 32) h32 rfl) ?_
  exact ac_nil
theorem e0_Mm_number_JJ : decode prog_10_method_52_code 0 = .ok (.aload_n 0, 1) ∧ decode prog_10_method_52_code 1 = .ok (.getfield 178, 3) ∧ decode prog_10_method_52_code 4 = .ok (.iconst 2, 1) ∧ decode prog_10_method_52_code 5 = .ok (.if_icmp .eq 11, 3) ∧ decode prog_10_method_52_code 8 = .ok (.aload_n 0, 1) ∧ decode prog_10_method_52_code 9 = .ok (.iconst 1, 1) ∧ decode prog_10_method_52_code 10 = .ok (.invokevirtual 214, 3) ∧ decode prog_10_method_52_code 13 = .ok (.goto 21, 3) ∧ decode prog_10_method_52_code 16 = .ok (.aload_n 0, 1) ∧ decode prog_10_method_52_code 17 = .ok (.getfield 189, 3) ∧ decode prog_10_method_52_code 20 = .ok (.i2l, 1) ∧ decode prog_10_method_52_code 21 = .ok (.lload_n 1, 1) := by decide +kernel
theorem e1_Mm_number_JJ : decode prog_10_method_52_code 22 = .ok (.lload_n 3, 1) ∧ decode prog_10_method_52_code 23 = .ok (.invokestatic 57, 3) ∧ decode prog_10_method_52_code 26 = .ok (.ifCond .ne 8, 3) ∧ decode prog_10_method_52_code 29 = .ok (.aload_n 0, 1) ∧ decode prog_10_method_52_code 30 = .ok (.iconst 2, 1) ∧ decode prog_10_method_52_code 31 = .ok (.invokevirtual 214, 3) ∧ decode prog_10_method_52_code 34 = .ok (.aload_n 0, 1) ∧ decode prog_10_method_52_code 35 = .ok (.invokevirtual 198, 3) ∧ decode prog_10_method_52_code 38 = .ok (.ifCond .eq 10, 3) ∧ decode prog_10_method_52_code 41 = .ok (.aload_n 0, 1) ∧ decode prog_10_method_52_code 42 = .ok (.getfield 189, 3) ∧ decode prog_10_method_52_code 45 = .ok (.goto 5, 3) := by decide +kernel
theorem e2_Mm_number_JJ : decode prog_10_method_52_code 48 = .ok (.lload_n 1, 1) ∧ decode prog_10_method_52_code 49 = .ok (.l2i, 1) ∧ decode prog_10_method_52_code 50 = .ok (.istore 5, 2) ∧ decode prog_10_method_52_code 52 = .ok (.aload_n 0, 1) ∧ decode prog_10_method_52_code 53 = .ok (.invokevirtual 217, 3) ∧ decode prog_10_method_52_code 56 = .ok (.iload 5, 2) ∧ decode prog_10_method_52_code 58 = .ok (.ireturn, 1) := by decide +kernel
def T_Mm_number_JJ : TT := [(0, o_ald 0 1), (1, o_get 8 14 4), (4, o_push (.int (iI (2))) 5), (5, o_icmp_eq 16 8), (8, o_ald 0 9), (9, o_push (.int (iI (1))) 10), (10, o_callV M_Mm_errs 8 2 13), (13, o_goto 34), (16, o_ald 0 17), (17, o_get 8 15 20), (20, o_i2l 21), (21, o_lld 1 22), (22, o_lld 3 23), (23, o_call M_Mm_isIn 3 26), (26, o_if_ne 34 29), (29, o_ald 0 30), (30, o_push (.int (iI (2))) 31), (31, o_callV M_Mm_errs 8 2 34), (34, o_ald 0 35), (35, o_callV M_Mm_isGood 8 1 38), (38, o_if_eq 48 41), (41, o_ald 0 42), (42, o_get 8 15 45), (45, o_goto 50), (48, o_lld 1 49), (49, o_l2i 50), (50, o_ist 5 52), (52, o_ald 0 53), (53, o_callV M_Mm_goesOn 8 1 56), (56, o_ild 5 58), (58, o_iret)]
theorem k_Mm_number_JJ : ∀ x ∈ T_Mm_number_JJ, SO M_Mm_number_JJ x.1 x.2 := by
  obtain ⟨h0, h1, h4, h5, h8, h9, h10, h13, h16, h17, h20, h21⟩ := e0_Mm_number_JJ
  obtain ⟨h22, h23, h26, h29, h30, h31, h34, h35, h38, h41, h42, h45⟩ := e1_Mm_number_JJ
  obtain ⟨h48, h49, h50, h52, h53, h56, h58⟩ := e2_Mm_number_JJ
  refine ac (s_aldn (M := M_Mm_number_JJ) (pc := 0) (k := 0) h0) ?_
  refine ac (s_get (M := M_Mm_number_JJ) (pc := 1) (T := TX8) (N := 29) h1 rfl in_X8 (by decide) wd1703) ?_
  refine ac (s_iconst (M := M_Mm_number_JJ) (pc := 4) h4 rfl) ?_
  refine ac (s_icmp_eq (M := M_Mm_number_JJ) (pc := 5) h5 (by decide)) ?_
  refine ac (s_aldn (M := M_Mm_number_JJ) (pc := 8) (k := 0) h8) ?_
  refine ac (s_iconst (M := M_Mm_number_JJ) (pc := 9) h9 rfl) ?_
  refine ac (s_callV (M := M_Mm_number_JJ) (pc := 10) (tz_Mm rfl) h10 q_Mm_errs wd1841 wd1843 wd36 rfl (T := TX8) (N := 29) rfl) ?_
  refine ac (s_goto (M := M_Mm_number_JJ) (pc := 13) h13 (by decide)) ?_
  refine ac (s_aldn (M := M_Mm_number_JJ) (pc := 16) (k := 0) h16) ?_
  refine ac (s_get (M := M_Mm_number_JJ) (pc := 17) (T := TX8) (N := 29) h17 rfl in_X8 (by decide) wd1704) ?_
  refine ac (s_i2l (M := M_Mm_number_JJ) (pc := 20) h20) ?_
  refine ac (s_lldn (M := M_Mm_number_JJ) (pc := 21) (k := 1) h21) ?_
  refine ac (s_lldn (M := M_Mm_number_JJ) (pc := 22) (k := 3) h22) ?_
  refine ac (s_callS (M := M_Mm_number_JJ) (pc := 23) (tz_Mm rfl) h23 q_Mm_isIn wd1789 wd1790) ?_
  refine ac (s_if_ne (M := M_Mm_number_JJ) (pc := 26) h26 (by decide)) ?_
  refine ac (s_aldn (M := M_Mm_number_JJ) (pc := 29) (k := 0) h29) ?_
  refine ac (s_iconst (M := M_Mm_number_JJ) (pc := 30) h30 rfl) ?_
  refine ac (s_callV (M := M_Mm_number_JJ) (pc := 31) (tz_Mm rfl) h31 q_Mm_errs wd1841 wd1843 wd36 rfl (T := TX8) (N := 29) rfl) ?_
  refine ac (s_aldn (M := M_Mm_number_JJ) (pc := 34) (k := 0) h34) ?_
  refine ac (s_callV (M := M_Mm_number_JJ) (pc := 35) (tz_Mm rfl) h35 q_Mm_isGood wd1835 wd1837 wd35 rfl (T := TX8) (N := 29) rfl) ?_
  refine ac (s_if_eq (M := M_Mm_number_JJ) (pc := 38) h38 (by decide)) ?_
  refine ac (s_aldn (M := M_Mm_number_JJ) (pc := 41) (k := 0) h41) ?_
  refine ac (s_get (M := M_Mm_number_JJ) (pc := 42) (T := TX8) (N := 29) h42 rfl in_X8 (by decide) wd1704) ?_
  refine ac (s_goto (M := M_Mm_number_JJ) (pc := 45) h45 (by decide)) ?_
  refine ac (s_lldn (M := M_Mm_number_JJ) (pc := 48) (k := 1) h48) ?_
  refine ac (s_l2i (M := M_Mm_number_JJ) (pc := 49) h49) ?_
  refine ac (s_ist (M := M_Mm_number_JJ) (pc := 50) h50 (by decide)) ?_
  refine ac (s_aldn (M := M_Mm_number_JJ) (pc := 52) (k := 0) h52) ?_
  refine ac (s_callV (M := M_Mm_number_JJ) (pc := 53) (tz_Mm rfl) h53 q_Mm_goesOn wd1845 wd1847 wd37 rfl (T := TX8) (N := 29) rfl) ?_
  refine ac (s_ild (M := M_Mm_number_JJ) (pc := 56) h56) ?_
  refine ac (s_iret (M := M_Mm_number_JJ) (pc := 58) h58 rfl) ?_
  exact ac_nil
theorem e0_Mm_setHere : decode prog_10_method_59_code 0 = .ok (.aload_n 0, 1) ∧ decode prog_10_method_59_code 1 = .ok (.invokevirtual 195, 3) ∧ decode prog_10_method_59_code 4 = .ok (.aload_n 0, 1) ∧ decode prog_10_method_59_code 5 = .ok (.invokevirtual 225, 3) ∧ decode prog_10_method_59_code 8 = .ok (.istore_n 1, 1) ∧ decode prog_10_method_59_code 9 = .ok (.aload_n 0, 1) ∧ decode prog_10_method_59_code 10 = .ok (.getfield 236, 3) ∧ decode prog_10_method_59_code 13 = .ok (.iload_n 1, 1) ∧ decode prog_10_method_59_code 14 = .ok (.ishr, 1) ∧ decode prog_10_method_59_code 15 = .ok (.iconst 1, 1) ∧ decode prog_10_method_59_code 16 = .ok (.iand, 1) ∧ decode prog_10_method_59_code 17 = .ok (.iconst 1, 1) := by decide +kernel
theorem e1_Mm_setHere : decode prog_10_method_59_code 18 = .ok (.if_icmp .ne 8, 3) ∧ decode prog_10_method_59_code 21 = .ok (.aload_n 0, 1) ∧ decode prog_10_method_59_code 22 = .ok (.iconst 3, 1) ∧ decode prog_10_method_59_code 23 = .ok (.invokevirtual 214, 3) ∧ decode prog_10_method_59_code 26 = .ok (.aload_n 0, 1) ∧ decode prog_10_method_59_code 27 = .ok (.invokevirtual 217, 3) ∧ decode prog_10_method_59_code 30 = .ok (.aload_n 0, 1) ∧ decode prog_10_method_59_code 31 = .ok (.bipush 45, 2) ∧ decode prog_10_method_59_code 33 = .ok (.invokevirtual 211, 3) ∧ decode prog_10_method_59_code 36 = .ok (.istore_n 2, 1) ∧ decode prog_10_method_59_code 37 = .ok (.iload_n 2, 1) ∧ decode prog_10_method_59_code 38 = .ok (.ifCond .eq 7, 3) := by decide +kernel
theorem e2_Mm_setHere : decode prog_10_method_59_code 41 = .ok (.aload_n 0, 1) ∧ decode prog_10_method_59_code 42 = .ok (.invokevirtual 195, 3) ∧ decode prog_10_method_59_code 45 = .ok (.aload_n 0, 1) ∧ decode prog_10_method_59_code 46 = .ok (.lconst 0, 1) ∧ decode prog_10_method_59_code 47 = .ok (.aload_n 0, 1) ∧ decode prog_10_method_59_code 48 = .ok (.invokevirtual 101, 3) ∧ decode prog_10_method_59_code 51 = .ok (.invokevirtual 239, 3) ∧ decode prog_10_method_59_code 54 = .ok (.i2l, 1) ∧ decode prog_10_method_59_code 55 = .ok (.lstore_n 3, 1) ∧ decode prog_10_method_59_code 56 = .ok (.aload_n 0, 1) ∧ decode prog_10_method_59_code 57 = .ok (.invokevirtual 198, 3) ∧ decode prog_10_method_59_code 60 = .ok (.ifCond .eq 18, 3) := by decide +kernel
theorem e3_Mm_setHere : decode prog_10_method_59_code 63 = .ok (.aload_n 0, 1) ∧ decode prog_10_method_59_code 64 = .ok (.iload_n 1, 1) ∧ decode prog_10_method_59_code 65 = .ok (.iload_n 2, 1) ∧ decode prog_10_method_59_code 66 = .ok (.ifCond .eq 8, 3) ∧ decode prog_10_method_59_code 69 = .ok (.lload_n 3, 1) ∧ decode prog_10_method_59_code 70 = .ok (.lneg, 1) ∧ decode prog_10_method_59_code 71 = .ok (.goto 4, 3) ∧ decode prog_10_method_59_code 74 = .ok (.lload_n 3, 1) ∧ decode prog_10_method_59_code 75 = .ok (.invokevirtual 122, 3) ∧ decode prog_10_method_59_code 78 = .ok (.aload_n 0, 1) ∧ decode prog_10_method_59_code 79 = .ok (.aload_n 0, 1) ∧ decode prog_10_method_59_code 80 = .ok (.getfield 236, 3) := by decide +kernel
theorem e4_Mm_setHere : decode prog_10_method_59_code 83 = .ok (.iconst 1, 1) ∧ decode prog_10_method_59_code 84 = .ok (.iload_n 1, 1) ∧ decode prog_10_method_59_code 85 = .ok (.ishl, 1) ∧ decode prog_10_method_59_code 86 = .ok (.ior, 1) ∧ decode prog_10_method_59_code 87 = .ok (.putfield 236, 3) ∧ decode prog_10_method_59_code 90 = .ok (.aload_n 0, 1) ∧ decode prog_10_method_59_code 91 = .ok (.bipush 59, 2) ∧ decode prog_10_method_59_code 93 = .ok (.invokevirtual 243, 3) ∧ decode prog_10_method_59_code 96 = .ok (.return_, 1) := by decide +kernel
def T_Mm_setHere : TT := [(0, o_ald 0 1), (1, o_callV M_Mm_scans 8 1 4), (4, o_ald 0 5), (5, o_callV M_Mm_registerHere 8 1 8), (8, o_ist 1 9), (9, o_ald 0 10), (10, o_get 8 16 13), (13, o_ild 1 14), (14, o_ishr 15), (15, o_push (.int (iI (1))) 16), (16, o_iand 17), (17, o_push (.int (iI (1))) 18), (18, o_icmp_ne 26 21), (21, o_ald 0 22), (22, o_push (.int (iI (3))) 23), (23, o_callV M_Mm_errs 8 2 26), (26, o_ald 0 27), (27, o_callV M_Mm_goesOn 8 1 30), (30, o_ald 0 31), (31, o_push (.int (iI (45))) 33), (33, o_callV M_Mm_isSign 8 2 36), (36, o_ist 2 37), (37, o_ild 2 38), (38, o_if_eq 45 41), (41, o_ald 0 42), (42, o_callV M_Mm_scans 8 1 45), (45, o_ald 0 46), (46, o_push (.long (lI 0)) 47), (47, o_ald 0 48), (48, o_callV M_Mm_half 8 1 51), (51, o_callV M_Mm_number_JJ 8 3 54), (54, o_i2l 55), (55, o_lst 3 56), (56, o_ald 0 57), (57, o_callV M_Mm_isGood 8 1 60), (60, o_if_eq 78 63), (63, o_ald 0 64), (64, o_ild 1 65), (65, o_ild 2 66), (66, o_if_eq 74 69), (69, o_lld 3 70), (70, o_lneg 71), (71, o_goto 75), (74, o_lld 3 75), (75, o_callV M_Mm_tells 8 3 78), (78, o_ald 0 79), (79, o_ald 0 80), (80, o_get 8 16 83), (83, o_push (.int (iI (1))) 84), (84, o_ild 1 85), (85, o_ishl 86), (86, o_ior 87), (87, o_puti 8 16 90), (90, o_ald 0 91), (91, o_push (.int (iI (59))) 93), (93, o_callV M_Mm_sign 8 2 96), (96, o_vret)]
theorem k_Mm_setHere : ∀ x ∈ T_Mm_setHere, SO M_Mm_setHere x.1 x.2 := by
  obtain ⟨h0, h1, h4, h5, h8, h9, h10, h13, h14, h15, h16, h17⟩ := e0_Mm_setHere
  obtain ⟨h18, h21, h22, h23, h26, h27, h30, h31, h33, h36, h37, h38⟩ := e1_Mm_setHere
  obtain ⟨h41, h42, h45, h46, h47, h48, h51, h54, h55, h56, h57, h60⟩ := e2_Mm_setHere
  obtain ⟨h63, h64, h65, h66, h69, h70, h71, h74, h75, h78, h79, h80⟩ := e3_Mm_setHere
  obtain ⟨h83, h84, h85, h86, h87, h90, h91, h93, h96⟩ := e4_Mm_setHere
  refine ac (s_aldn (M := M_Mm_setHere) (pc := 0) (k := 0) h0) ?_
  refine ac (s_callV (M := M_Mm_setHere) (pc := 1) (tz_Mm rfl) h1 q_Mm_scans wd1811 wd1813 wd31 rfl (T := TX8) (N := 29) rfl) ?_
  refine ac (s_aldn (M := M_Mm_setHere) (pc := 4) (k := 0) h4) ?_
  refine ac (s_callV (M := M_Mm_setHere) (pc := 5) (tz_Mm rfl) h5 q_Mm_registerHere wd1897 wd1899 wd48 rfl (T := TX8) (N := 29) rfl) ?_
  refine ac (s_istn (M := M_Mm_setHere) (pc := 8) (k := 1) h8 (by decide)) ?_
  refine ac (s_aldn (M := M_Mm_setHere) (pc := 9) (k := 0) h9) ?_
  refine ac (s_get (M := M_Mm_setHere) (pc := 10) (T := TX8) (N := 29) h10 rfl in_X8 (by decide) wd1705) ?_
  refine ac (s_ildn (M := M_Mm_setHere) (pc := 13) (k := 1) h13) ?_
  refine ac (s_ishr (M := M_Mm_setHere) (pc := 14) h14) ?_
  refine ac (s_iconst (M := M_Mm_setHere) (pc := 15) h15 rfl) ?_
  refine ac (s_iand (M := M_Mm_setHere) (pc := 16) h16) ?_
  refine ac (s_iconst (M := M_Mm_setHere) (pc := 17) h17 rfl) ?_
  refine ac (s_icmp_ne (M := M_Mm_setHere) (pc := 18) h18 (by decide)) ?_
  refine ac (s_aldn (M := M_Mm_setHere) (pc := 21) (k := 0) h21) ?_
  refine ac (s_iconst (M := M_Mm_setHere) (pc := 22) h22 rfl) ?_
  refine ac (s_callV (M := M_Mm_setHere) (pc := 23) (tz_Mm rfl) h23 q_Mm_errs wd1841 wd1843 wd36 rfl (T := TX8) (N := 29) rfl) ?_
  refine ac (s_aldn (M := M_Mm_setHere) (pc := 26) (k := 0) h26) ?_
  refine ac (s_callV (M := M_Mm_setHere) (pc := 27) (tz_Mm rfl) h27 q_Mm_goesOn wd1845 wd1847 wd37 rfl (T := TX8) (N := 29) rfl) ?_
  refine ac (s_aldn (M := M_Mm_setHere) (pc := 30) (k := 0) h30) ?_
  refine ac (s_bipush (M := M_Mm_setHere) (pc := 31) h31 (by decide)) ?_
  refine ac (s_callV (M := M_Mm_setHere) (pc := 33) (tz_Mm rfl) h33 q_Mm_isSign wd1882 wd1884 wd45 rfl (T := TX8) (N := 29) rfl) ?_
  refine ac (s_istn (M := M_Mm_setHere) (pc := 36) (k := 2) h36 (by decide)) ?_
  refine ac (s_ildn (M := M_Mm_setHere) (pc := 37) (k := 2) h37) ?_
  refine ac (s_if_eq (M := M_Mm_setHere) (pc := 38) h38 (by decide)) ?_
  refine ac (s_aldn (M := M_Mm_setHere) (pc := 41) (k := 0) h41) ?_
  refine ac (s_callV (M := M_Mm_setHere) (pc := 42) (tz_Mm rfl) h42 q_Mm_scans wd1811 wd1813 wd31 rfl (T := TX8) (N := 29) rfl) ?_
  refine ac (s_aldn (M := M_Mm_setHere) (pc := 45) (k := 0) h45) ?_
  refine ac (s_lconst (M := M_Mm_setHere) (pc := 46) h46 (by decide)) ?_
  refine ac (s_aldn (M := M_Mm_setHere) (pc := 47) (k := 0) h47) ?_
  refine ac (s_callV (M := M_Mm_setHere) (pc := 48) (tz_Mm rfl) h48 q_Mm_half wd1906 wd1908 wd50 rfl (T := TX8) (N := 29) rfl) ?_
  refine ac (s_callV (M := M_Mm_setHere) (pc := 51) (tz_Mm rfl) h51 q_Mm_number_JJ wd1887 wd1889 wd46 rfl (T := TX8) (N := 29) rfl) ?_
  refine ac (s_i2l (M := M_Mm_setHere) (pc := 54) h54) ?_
  refine ac (s_lstn (M := M_Mm_setHere) (pc := 55) (k := 3) h55 (by decide)) ?_
  refine ac (s_aldn (M := M_Mm_setHere) (pc := 56) (k := 0) h56) ?_
  refine ac (s_callV (M := M_Mm_setHere) (pc := 57) (tz_Mm rfl) h57 q_Mm_isGood wd1835 wd1837 wd35 rfl (T := TX8) (N := 29) rfl) ?_
  refine ac (s_if_eq (M := M_Mm_setHere) (pc := 60) h60 (by decide)) ?_
  refine ac (s_aldn (M := M_Mm_setHere) (pc := 63) (k := 0) h63) ?_
  refine ac (s_ildn (M := M_Mm_setHere) (pc := 64) (k := 1) h64) ?_
  refine ac (s_ildn (M := M_Mm_setHere) (pc := 65) (k := 2) h65) ?_
  refine ac (s_if_eq (M := M_Mm_setHere) (pc := 66) h66 (by decide)) ?_
  refine ac (s_lldn (M := M_Mm_setHere) (pc := 69) (k := 3) h69) ?_
  refine ac (s_lneg (M := M_Mm_setHere) (pc := 70) h70) ?_
  refine ac (s_goto (M := M_Mm_setHere) (pc := 71) h71 (by decide)) ?_
  refine ac (s_lldn (M := M_Mm_setHere) (pc := 74) (k := 3) h74) ?_
  refine ac (s_callV (M := M_Mm_setHere) (pc := 75) (tz_Mm rfl) h75 q_Mm_tells wd1914 wd1916 wd52 rfl (T := TX8) (N := 29) rfl) ?_
  refine ac (s_aldn (M := M_Mm_setHere) (pc := 78) (k := 0) h78) ?_
  refine ac (s_aldn (M := M_Mm_setHere) (pc := 79) (k := 0) h79) ?_
  refine ac (s_get (M := M_Mm_setHere) (pc := 80) (T := TX8) (N := 29) h80 rfl in_X8 (by decide) wd1705) ?_
  refine ac (s_iconst (M := M_Mm_setHere) (pc := 83) h83 rfl) ?_
  refine ac (s_ildn (M := M_Mm_setHere) (pc := 84) (k := 1) h84) ?_
  refine ac (s_ishl (M := M_Mm_setHere) (pc := 85) h85) ?_
  refine ac (s_ior (M := M_Mm_setHere) (pc := 86) h86) ?_
  refine ac (s_puti (M := M_Mm_setHere) (pc := 87) (T := TX8) (N := 29) (ty0 := tyX8) h87 ⟨rfl, in_X8, by decide, wd1705, tyX8_ok, nmX8, (Or.inl rfl)⟩ rfl) ?_
  refine ac (s_aldn (M := M_Mm_setHere) (pc := 90) (k := 0) h90) ?_
  refine ac (s_bipush (M := M_Mm_setHere) (pc := 91) h91 (by decide)) ?_
  refine ac (s_callV (M := M_Mm_setHere) (pc := 93) (tz_Mm rfl) h93 q_Mm_sign wd1878 wd1880 wd44 rfl (T := TX8) (N := 29) rfl) ?_
  refine ac (s_vret (M := M_Mm_setHere) (pc := 96) h96 rfl) ?_
  exact ac_nil
theorem e0_Mm_registerHere : decode prog_10_method_54_code 0 = .ok (.aload_n 0, 1) ∧ decode prog_10_method_54_code 1 = .ok (.invokevirtual 222, 3) ∧ decode prog_10_method_54_code 4 = .ok (.ifCond .ne 8, 3) ∧ decode prog_10_method_54_code 7 = .ok (.aload_n 0, 1) ∧ decode prog_10_method_54_code 8 = .ok (.iconst 1, 1) ∧ decode prog_10_method_54_code 9 = .ok (.invokevirtual 214, 3) ∧ decode prog_10_method_54_code 12 = .ok (.aload_n 0, 1) ∧ decode prog_10_method_54_code 13 = .ok (.invokevirtual 198, 3) ∧ decode prog_10_method_54_code 16 = .ok (.ifCond .eq 17, 3) ∧ decode prog_10_method_54_code 19 = .ok (.aload_n 0, 1) ∧ decode prog_10_method_54_code 20 = .ok (.aload_n 0, 1) ∧ decode prog_10_method_54_code 21 = .ok (.getfield 175, 3) := by decide +kernel
theorem e1_Mm_registerHere : decode prog_10_method_54_code 24 = .ok (.invokevirtual 172, 3) ∧ decode prog_10_method_54_code 27 = .ok (.bipush 97, 2) ∧ decode prog_10_method_54_code 29 = .ok (.isub, 1) ∧ decode prog_10_method_54_code 30 = .ok (.goto 4, 3) ∧ decode prog_10_method_54_code 33 = .ok (.iconst 0, 1) ∧ decode prog_10_method_54_code 34 = .ok (.ireturn, 1) := by decide +kernel
def T_Mm_registerHere : TT := [(0, o_ald 0 1), (1, o_callV M_Mm_isLetter 8 1 4), (4, o_if_ne 12 7), (7, o_ald 0 8), (8, o_push (.int (iI (1))) 9), (9, o_callV M_Mm_errs 8 2 12), (12, o_ald 0 13), (13, o_callV M_Mm_isGood 8 1 16), (16, o_if_eq 33 19), (19, o_ald 0 20), (20, o_ald 0 21), (21, o_get 8 12 24), (24, o_callV M_Mm_byteAt 8 2 27), (27, o_push (.int (iI (97))) 29), (29, o_isub 30), (30, o_goto 34), (33, o_push (.int (iI (0))) 34), (34, o_iret)]
theorem k_Mm_registerHere : ∀ x ∈ T_Mm_registerHere, SO M_Mm_registerHere x.1 x.2 := by
  obtain ⟨h0, h1, h4, h7, h8, h9, h12, h13, h16, h19, h20, h21⟩ := e0_Mm_registerHere
  obtain ⟨h24, h27, h29, h30, h33, h34⟩ := e1_Mm_registerHere
  refine ac (s_aldn (M := M_Mm_registerHere) (pc := 0) (k := 0) h0) ?_
  refine ac (s_callV (M := M_Mm_registerHere) (pc := 1) (tz_Mm rfl) h1 q_Mm_isLetter wd1901 wd1903 wd49 rfl (T := TX8) (N := 29) rfl) ?_
  refine ac (s_if_ne (M := M_Mm_registerHere) (pc := 4) h4 (by decide)) ?_
  refine ac (s_aldn (M := M_Mm_registerHere) (pc := 7) (k := 0) h7) ?_
  refine ac (s_iconst (M := M_Mm_registerHere) (pc := 8) h8 rfl) ?_
  refine ac (s_callV (M := M_Mm_registerHere) (pc := 9) (tz_Mm rfl) h9 q_Mm_errs wd1841 wd1843 wd36 rfl (T := TX8) (N := 29) rfl) ?_
  refine ac (s_aldn (M := M_Mm_registerHere) (pc := 12) (k := 0) h12) ?_
  refine ac (s_callV (M := M_Mm_registerHere) (pc := 13) (tz_Mm rfl) h13 q_Mm_isGood wd1835 wd1837 wd35 rfl (T := TX8) (N := 29) rfl) ?_
  refine ac (s_if_eq (M := M_Mm_registerHere) (pc := 16) h16 (by decide)) ?_
  refine ac (s_aldn (M := M_Mm_registerHere) (pc := 19) (k := 0) h19) ?_
  refine ac (s_aldn (M := M_Mm_registerHere) (pc := 20) (k := 0) h20) ?_
  refine ac (s_get (M := M_Mm_registerHere) (pc := 21) (T := TX8) (N := 29) h21 rfl in_X8 (by decide) wd1701) ?_
  refine ac (s_callV (M := M_Mm_registerHere) (pc := 24) (tz_Mm rfl) h24 q_Mm_byteAt wd1815 wd1817 wd32 rfl (T := TX8) (N := 29) rfl) ?_
  refine ac (s_bipush (M := M_Mm_registerHere) (pc := 27) h27 (by decide)) ?_
  refine ac (s_isub (M := M_Mm_registerHere) (pc := 29) h29) ?_
  refine ac (s_goto (M := M_Mm_registerHere) (pc := 30) h30 (by decide)) ?_
  refine ac (s_iconst (M := M_Mm_registerHere) (pc := 33) h33 rfl) ?_
  refine ac (s_iret (M := M_Mm_registerHere) (pc := 34) h34 rfl) ?_
  exact ac_nil
theorem e0_Mm_isLetter : decode prog_10_method_53_code 0 = .ok (.aload_n 0, 1) ∧ decode prog_10_method_53_code 1 = .ok (.invokevirtual 198, 3) ∧ decode prog_10_method_53_code 4 = .ok (.ifCond .eq 49, 3) ∧ decode prog_10_method_53_code 7 = .ok (.aload_n 0, 1) ∧ decode prog_10_method_53_code 8 = .ok (.getfield 178, 3) ∧ decode prog_10_method_53_code 11 = .ok (.iconst 1, 1) ∧ decode prog_10_method_53_code 12 = .ok (.if_icmp .ne 41, 3) ∧ decode prog_10_method_53_code 15 = .ok (.aload_n 0, 1) ∧ decode prog_10_method_53_code 16 = .ok (.getfield 169, 3) ∧ decode prog_10_method_53_code 19 = .ok (.aload_n 0, 1) ∧ decode prog_10_method_53_code 20 = .ok (.getfield 175, 3) ∧ decode prog_10_method_53_code 23 = .ok (.isub, 1) := by decide +kernel
theorem e1_Mm_isLetter : decode prog_10_method_53_code 24 = .ok (.iconst 1, 1) ∧ decode prog_10_method_53_code 25 = .ok (.if_icmp .ne 28, 3) ∧ decode prog_10_method_53_code 28 = .ok (.aload_n 0, 1) ∧ decode prog_10_method_53_code 29 = .ok (.aload_n 0, 1) ∧ decode prog_10_method_53_code 30 = .ok (.getfield 175, 3) ∧ decode prog_10_method_53_code 33 = .ok (.invokevirtual 172, 3) ∧ decode prog_10_method_53_code 36 = .ok (.i2l, 1) ∧ decode prog_10_method_53_code 37 = .ok (.ldc2_w 181, 3) ∧ decode prog_10_method_53_code 40 = .ok (.ldc2_w 220, 3) ∧ decode prog_10_method_53_code 43 = .ok (.invokestatic 57, 3) ∧ decode prog_10_method_53_code 46 = .ok (.ifCond .eq 7, 3) ∧ decode prog_10_method_53_code 49 = .ok (.iconst 1, 1) := by decide +kernel
theorem e2_Mm_isLetter : decode prog_10_method_53_code 50 = .ok (.goto 4, 3) ∧ decode prog_10_method_53_code 53 = .ok (.iconst 0, 1) ∧ decode prog_10_method_53_code 54 = .ok (.ireturn, 1) := by decide +kernel
def T_Mm_isLetter : TT := [(0, o_ald 0 1), (1, o_callV M_Mm_isGood 8 1 4), (4, o_if_eq 53 7), (7, o_ald 0 8), (8, o_get 8 14 11), (11, o_push (.int (iI (1))) 12), (12, o_icmp_ne 53 15), (15, o_ald 0 16), (16, o_get 8 13 19), (19, o_ald 0 20), (20, o_get 8 12 23), (23, o_isub 24), (24, o_push (.int (iI (1))) 25), (25, o_icmp_ne 53 28), (28, o_ald 0 29), (29, o_ald 0 30), (30, o_get 8 12 33), (33, o_callV M_Mm_byteAt 8 2 36), (36, o_i2l 37), (37, o_push (.long (lI (97))) 40), (40, o_push (.long (lI (104))) 43), (43, o_call M_Mm_isIn 3 46), (46, o_if_eq 53 49), (49, o_push (.int (iI (1))) 50), (50, o_goto 54), (53, o_push (.int (iI (0))) 54), (54, o_zret)]
theorem k_Mm_isLetter : ∀ x ∈ T_Mm_isLetter, SO M_Mm_isLetter x.1 x.2 := by
  obtain ⟨h0, h1, h4, h7, h8, h11, h12, h15, h16, h19, h20, h23⟩ := e0_Mm_isLetter
  obtain ⟨h24, h25, h28, h29, h30, h33, h36, h37, h40, h43, h46, h49⟩ := e1_Mm_isLetter
  obtain ⟨h50, h53, h54⟩ := e2_Mm_isLetter
  refine ac (s_aldn (M := M_Mm_isLetter) (pc := 0) (k := 0) h0) ?_
  refine ac (s_callV (M := M_Mm_isLetter) (pc := 1) (tz_Mm rfl) h1 q_Mm_isGood wd1835 wd1837 wd35 rfl (T := TX8) (N := 29) rfl) ?_
  refine ac (s_if_eq (M := M_Mm_isLetter) (pc := 4) h4 (by decide)) ?_
  refine ac (s_aldn (M := M_Mm_isLetter) (pc := 7) (k := 0) h7) ?_
  refine ac (s_get (M := M_Mm_isLetter) (pc := 8) (T := TX8) (N := 29) h8 rfl in_X8 (by decide) wd1703) ?_
  refine ac (s_iconst (M := M_Mm_isLetter) (pc := 11) h11 rfl) ?_
  refine ac (s_icmp_ne (M := M_Mm_isLetter) (pc := 12) h12 (by decide)) ?_
  refine ac (s_aldn (M := M_Mm_isLetter) (pc := 15) (k := 0) h15) ?_
  refine ac (s_get (M := M_Mm_isLetter) (pc := 16) (T := TX8) (N := 29) h16 rfl in_X8 (by decide) wd1702) ?_
  refine ac (s_aldn (M := M_Mm_isLetter) (pc := 19) (k := 0) h19) ?_
  refine ac (s_get (M := M_Mm_isLetter) (pc := 20) (T := TX8) (N := 29) h20 rfl in_X8 (by decide) wd1701) ?_
  refine ac (s_isub (M := M_Mm_isLetter) (pc := 23) h23) ?_
  refine ac (s_iconst (M := M_Mm_isLetter) (pc := 24) h24 rfl) ?_
  refine ac (s_icmp_ne (M := M_Mm_isLetter) (pc := 25) h25 (by decide)) ?_
  refine ac (s_aldn (M := M_Mm_isLetter) (pc := 28) (k := 0) h28) ?_
  refine ac (s_aldn (M := M_Mm_isLetter) (pc := 29) (k := 0) h29) ?_
  refine ac (s_get (M := M_Mm_isLetter) (pc := 30) (T := TX8) (N := 29) h30 rfl in_X8 (by decide) wd1701) ?_
  refine ac (s_callV (M := M_Mm_isLetter) (pc := 33) (tz_Mm rfl) h33 q_Mm_byteAt wd1815 wd1817 wd32 rfl (T := TX8) (N := 29) rfl) ?_
  refine ac (s_i2l (M := M_Mm_isLetter) (pc := 36) h36) ?_
  refine ac (s_ldc2 (M := M_Mm_isLetter) (pc := 37) h37 wd1819) ?_
  refine ac (s_ldc2 (M := M_Mm_isLetter) (pc := 40) h40 wd1905) ?_
  refine ac (s_callS (M := M_Mm_isLetter) (pc := 43) (tz_Mm rfl) h43 q_Mm_isIn wd1789 wd1790) ?_
  refine ac (s_if_eq (M := M_Mm_isLetter) (pc := 46) h46 (by decide)) ?_
  refine ac (s_iconst (M := M_Mm_isLetter) (pc := 49) h49 rfl) ?_
  refine ac (s_goto (M := M_Mm_isLetter) (pc := 50) h50 (by decide)) ?_
  refine ac (s_iconst (M := M_Mm_isLetter) (pc := 53) h53 rfl) ?_
  refine ac (s_zret (M := M_Mm_isLetter) (pc := 54) h54 rfl) ?_
  exact ac_nil
theorem e0_Mm_half : decode prog_10_method_12_code 0 = .ok (.aload_n 0, 1) ∧ decode prog_10_method_12_code 1 = .ok (.aload_n 0, 1) ∧ decode prog_10_method_12_code 2 = .ok (.invokevirtual 73, 3) ∧ decode prog_10_method_12_code 5 = .ok (.invokevirtual 69, 3) ∧ decode prog_10_method_12_code 8 = .ok (.lconst 1, 1) ∧ decode prog_10_method_12_code 9 = .ok (.lsub, 1) ∧ decode prog_10_method_12_code 10 = .ok (.ldc2_w 76, 3) ∧ decode prog_10_method_12_code 13 = .ok (.ldiv, 1) ∧ decode prog_10_method_12_code 14 = .ok (.lreturn, 1) := by decide +kernel
def T_Mm_half : TT := [(0, o_ald 0 1), (1, o_ald 0 2), (2, o_callV M_Mm_bases 8 1 5), (5, o_callV M_Mm_productOf 8 2 8), (8, o_push (.long (lI 1)) 9), (9, o_lsub 10), (10, o_push (.long (lI (2))) 13), (13, o_ldiv 14), (14, o_lret)]
theorem k_Mm_half : ∀ x ∈ T_Mm_half, SO M_Mm_half x.1 x.2 := by
  obtain ⟨h0, h1, h2, h5, h8, h9, h10, h13, h14⟩ := e0_Mm_half
  refine ac (s_aldn (M := M_Mm_half) (pc := 0) (k := 0) h0) ?_
  refine ac (s_aldn (M := M_Mm_half) (pc := 1) (k := 0) h1) ?_
  refine ac (s_callV (M := M_Mm_half) (pc := 2) (tz_Mm rfl) h2 q_Mm_bases wd1910 wd1912 wd51 rfl (T := TX8) (N := 29) rfl) ?_
  refine ac (s_callV (M := M_Mm_half) (pc := 5) (tz_Mm rfl) h5 q_Mm_productOf wd1862 wd1864 wd41 rfl (T := TX8) (N := 29) rfl) ?_
  refine ac (s_lconst (M := M_Mm_half) (pc := 8) h8 (by decide)) ?_
  refine ac (s_lsub (M := M_Mm_half) (pc := 9) h9) ?_
  refine ac (s_ldc2 (M := M_Mm_half) (pc := 10) h10 wd1857) ?_
  refine ac (s_ldiv (M := M_Mm_half) (pc := 13) h13) ?_
  refine ac (s_lret (M := M_Mm_half) (pc := 14) h14 rfl) ?_
  exact ac_nil
theorem e0_Mm_bases : decode prog_10_method_6_code 0 = .ok (.aload_n 0, 1) ∧ decode prog_10_method_6_code 1 = .ok (.getfield 13, 3) ∧ decode prog_10_method_6_code 4 = .ok (.iconst 0, 1) ∧ decode prog_10_method_6_code 5 = .ok (.iaload, 1) ∧ decode prog_10_method_6_code 6 = .ok (.aload_n 0, 1) ∧ decode prog_10_method_6_code 7 = .ok (.getfield 13, 3) ∧ decode prog_10_method_6_code 10 = .ok (.iconst 1, 1) ∧ decode prog_10_method_6_code 11 = .ok (.iaload, 1) ∧ decode prog_10_method_6_code 12 = .ok (.isub, 1) ∧ decode prog_10_method_6_code 13 = .ok (.ireturn, 1) := by decide +kernel
def T_Mm_bases : TT := [(0, o_ald 0 1), (1, o_get 8 1 4), (4, o_push (.int (iI (0))) 5), (5, o_iald 6), (6, o_ald 0 7), (7, o_get 8 1 10), (10, o_push (.int (iI (1))) 11), (11, o_iald 12), (12, o_isub 13), (13, o_iret)]
theorem k_Mm_bases : ∀ x ∈ T_Mm_bases, SO M_Mm_bases x.1 x.2 := by
  obtain ⟨h0, h1, h4, h5, h6, h7, h10, h11, h12, h13⟩ := e0_Mm_bases
  refine ac (s_aldn (M := M_Mm_bases) (pc := 0) (k := 0) h0) ?_
  refine ac (s_get (M := M_Mm_bases) (pc := 1) (T := TX8) (N := 29) h1 rfl in_X8 (by decide) wd1690) ?_
  refine ac (s_iconst (M := M_Mm_bases) (pc := 4) h4 rfl) ?_
  refine ac (s_iald (M := M_Mm_bases) (pc := 5) h5) ?_
  refine ac (s_aldn (M := M_Mm_bases) (pc := 6) (k := 0) h6) ?_
  refine ac (s_get (M := M_Mm_bases) (pc := 7) (T := TX8) (N := 29) h7 rfl in_X8 (by decide) wd1690) ?_
  refine ac (s_iconst (M := M_Mm_bases) (pc := 10) h10 rfl) ?_
  refine ac (s_iald (M := M_Mm_bases) (pc := 11) h11) ?_
  refine ac (s_isub (M := M_Mm_bases) (pc := 12) h12) ?_
  refine ac (s_iret (M := M_Mm_bases) (pc := 13) h13 rfl) ?_
  exact ac_nil
theorem e0_Mm_tells : decode prog_10_method_16_code 0 = .ok (.iconst 0, 1) ∧ decode prog_10_method_16_code 1 = .ok (.istore 4, 2) ∧ decode prog_10_method_16_code 3 = .ok (.iload 4, 2) ∧ decode prog_10_method_16_code 5 = .ok (.aload_n 0, 1) ∧ decode prog_10_method_16_code 6 = .ok (.invokevirtual 61, 3) ∧ decode prog_10_method_16_code 9 = .ok (.if_icmp .ge 26, 3) ∧ decode prog_10_method_16_code 12 = .ok (.aload_n 0, 1) ∧ decode prog_10_method_16_code 13 = .ok (.iload_n 1, 1) ∧ decode prog_10_method_16_code 14 = .ok (.iload 4, 2) ∧ decode prog_10_method_16_code 16 = .ok (.lload_n 2, 1) ∧ decode prog_10_method_16_code 17 = .ok (.aload_n 0, 1) ∧ decode prog_10_method_16_code 18 = .ok (.iload 4, 2) := by decide +kernel
theorem e1_Mm_tells : decode prog_10_method_16_code 20 = .ok (.invokevirtual 65, 3) ∧ decode prog_10_method_16_code 23 = .ok (.invokestatic 78, 3) ∧ decode prog_10_method_16_code 26 = .ok (.invokevirtual 82, 3) ∧ decode prog_10_method_16_code 29 = .ok (.iinc 4 1, 3) ∧ decode prog_10_method_16_code 32 = .ok (.goto (-29), 3) ∧ decode prog_10_method_16_code 35 = .ok (.return_, 1) := by decide +kernel
def T_Mm_tells : TT := [(0, o_push (.int (iI (0))) 1), (1, o_ist 4 3), (3, o_ild 4 5), (5, o_ald 0 6), (6, o_callV M_Mm_many 8 1 9), (9, o_icmp_ge 35 12), (12, o_ald 0 13), (13, o_ild 1 14), (14, o_ild 4 16), (16, o_lld 2 17), (17, o_ald 0 18), (18, o_ild 4 20), (20, o_callV M_Mm_mod 8 2 23), (23, o_call M_Mm_rest_JI 2 26), (26, o_callV M_Mm_puts 8 4 29), (29, o_iinc 4 (iI (1)) 32), (32, o_goto 3), (35, o_vret)]
theorem k_Mm_tells : ∀ x ∈ T_Mm_tells, SO M_Mm_tells x.1 x.2 := by
  obtain ⟨h0, h1, h3, h5, h6, h9, h12, h13, h14, h16, h17, h18⟩ := e0_Mm_tells
  obtain ⟨h20, h23, h26, h29, h32, h35⟩ := e1_Mm_tells
  refine ac (s_iconst (M := M_Mm_tells) (pc := 0) h0 rfl) ?_
  refine ac (s_ist (M := M_Mm_tells) (pc := 1) h1 (by decide)) ?_
  refine ac (s_ild (M := M_Mm_tells) (pc := 3) h3) ?_
  refine ac (s_aldn (M := M_Mm_tells) (pc := 5) (k := 0) h5) ?_
  refine ac (s_callV (M := M_Mm_tells) (pc := 6) (tz_Mm rfl) h6 q_Mm_many wd1849 wd1851 wd38 rfl (T := TX8) (N := 29) rfl) ?_
  refine ac (s_icmp_ge (M := M_Mm_tells) (pc := 9) h9 (by decide)) ?_
  refine ac (s_aldn (M := M_Mm_tells) (pc := 12) (k := 0) h12) ?_
  refine ac (s_ildn (M := M_Mm_tells) (pc := 13) (k := 1) h13) ?_
  refine ac (s_ild (M := M_Mm_tells) (pc := 14) h14) ?_
  refine ac (s_lldn (M := M_Mm_tells) (pc := 16) (k := 2) h16) ?_
  refine ac (s_aldn (M := M_Mm_tells) (pc := 17) (k := 0) h17) ?_
  refine ac (s_ild (M := M_Mm_tells) (pc := 18) h18) ?_
  refine ac (s_callV (M := M_Mm_tells) (pc := 20) (tz_Mm rfl) h20 q_Mm_mod wd1866 wd1868 wd42 rfl (T := TX8) (N := 29) rfl) ?_
  refine ac (s_callS (M := M_Mm_tells) (pc := 23) (tz_Mm rfl) h23 q_Mm_rest_JI wd1918 wd1919) ?_
  refine ac (s_callV (M := M_Mm_tells) (pc := 26) (tz_Mm rfl) h26 q_Mm_puts wd1921 wd1923 wd53 rfl (T := TX8) (N := 29) rfl) ?_
  refine ac (s_iinc (M := M_Mm_tells) (pc := 29) h29 rfl (by decide)) ?_
  refine ac (s_goto (M := M_Mm_tells) (pc := 32) h32 (by decide)) ?_
  refine ac (s_vret (M := M_Mm_tells) (pc := 35) h35 rfl) ?_
  exact ac_nil
theorem e0_Mm_rest_JI : decode prog_10_method_13_code 0 = .ok (.lload_n 0, 1) ∧ decode prog_10_method_13_code 1 = .ok (.iload_n 2, 1) ∧ decode prog_10_method_13_code 2 = .ok (.i2l, 1) ∧ decode prog_10_method_13_code 3 = .ok (.lrem, 1) ∧ decode prog_10_method_13_code 4 = .ok (.lstore_n 3, 1) ∧ decode prog_10_method_13_code 5 = .ok (.lload_n 3, 1) ∧ decode prog_10_method_13_code 6 = .ok (.lconst 0, 1) ∧ decode prog_10_method_13_code 7 = .ok (.lcmp, 1) ∧ decode prog_10_method_13_code 8 = .ok (.ifCond .ge 10, 3) ∧ decode prog_10_method_13_code 11 = .ok (.lload_n 3, 1) ∧ decode prog_10_method_13_code 12 = .ok (.iload_n 2, 1) ∧ decode prog_10_method_13_code 13 = .ok (.i2l, 1) := by decide +kernel
theorem e1_Mm_rest_JI : decode prog_10_method_13_code 14 = .ok (.ladd, 1) ∧ decode prog_10_method_13_code 15 = .ok (.goto 4, 3) ∧ decode prog_10_method_13_code 18 = .ok (.lload_n 3, 1) ∧ decode prog_10_method_13_code 19 = .ok (.l2i, 1) ∧ decode prog_10_method_13_code 20 = .ok (.ireturn, 1) := by decide +kernel
def T_Mm_rest_JI : TT := [(0, o_lld 0 1), (1, o_ild 2 2), (2, o_i2l 3), (3, o_lrem 4), (4, o_lst 3 5), (5, o_lld 3 6), (6, o_push (.long (lI 0)) 7), (7, o_lc_ge 18 11), (11, o_lld 3 12), (12, o_ild 2 13), (13, o_i2l 14), (14, o_ladd 15), (15, o_goto 19), (18, o_lld 3 19), (19, o_l2i 20), (20, o_iret)]
theorem k_Mm_rest_JI : ∀ x ∈ T_Mm_rest_JI, SO M_Mm_rest_JI x.1 x.2 := by
  obtain ⟨h0, h1, h2, h3, h4, h5, h6, h7, h8, h11, h12, h13⟩ := e0_Mm_rest_JI
  obtain ⟨h14, h15, h18, h19, h20⟩ := e1_Mm_rest_JI
  refine ac (s_lldn (M := M_Mm_rest_JI) (pc := 0) (k := 0) h0) ?_
  refine ac (s_ildn (M := M_Mm_rest_JI) (pc := 1) (k := 2) h1) ?_
  refine ac (s_i2l (M := M_Mm_rest_JI) (pc := 2) h2) ?_
  refine ac (s_lrem (M := M_Mm_rest_JI) (pc := 3) h3) ?_
  refine ac (s_lstn (M := M_Mm_rest_JI) (pc := 4) (k := 3) h4 (by decide)) ?_
  refine ac (s_lldn (M := M_Mm_rest_JI) (pc := 5) (k := 3) h5) ?_
  refine ac (s_lconst (M := M_Mm_rest_JI) (pc := 6) h6 (by decide)) ?_
  refine ac (s_lc_ge (M := M_Mm_rest_JI) (pc := 7) h7 h8 (by decide)) ?_
  refine ac (s_lldn (M := M_Mm_rest_JI) (pc := 11) (k := 3) h11) ?_
  refine ac (s_ildn (M := M_Mm_rest_JI) (pc := 12) (k := 2) h12) ?_
  refine ac (s_i2l (M := M_Mm_rest_JI) (pc := 13) h13) ?_
  refine ac (s_ladd (M := M_Mm_rest_JI) (pc := 14) h14) ?_
  refine ac (s_goto (M := M_Mm_rest_JI) (pc := 15) h15 (by decide)) ?_
  refine ac (s_lldn (M := M_Mm_rest_JI) (pc := 18) (k := 3) h18) ?_
  refine ac (s_l2i (M := M_Mm_rest_JI) (pc := 19) h19) ?_
  refine ac (s_iret (M := M_Mm_rest_JI) (pc := 20) h20 rfl) ?_
  exact ac_nil
theorem e0_Mm_puts : decode prog_10_method_15_code 0 = .ok (.iload_n 1, 1) ∧ decode prog_10_method_15_code 1 = .ok (.bipush 8, 2) ∧ decode prog_10_method_15_code 3 = .ok (.if_icmp .ge 21, 3) ∧ decode prog_10_method_15_code 6 = .ok (.aload_n 0, 1) ∧ decode prog_10_method_15_code 7 = .ok (.getfield 13, 3) ∧ decode prog_10_method_15_code 10 = .ok (.bipush 20, 2) ∧ decode prog_10_method_15_code 12 = .ok (.bipush 6, 2) ∧ decode prog_10_method_15_code 14 = .ok (.iload_n 1, 1) ∧ decode prog_10_method_15_code 15 = .ok (.imul, 1) ∧ decode prog_10_method_15_code 16 = .ok (.iadd, 1) ∧ decode prog_10_method_15_code 17 = .ok (.iload_n 2, 1) ∧ decode prog_10_method_15_code 18 = .ok (.iadd, 1) := by decide +kernel
theorem e1_Mm_puts : decode prog_10_method_15_code 19 = .ok (.iload_n 3, 1) ∧ decode prog_10_method_15_code 20 = .ok (.iastore, 1) ∧ decode prog_10_method_15_code 21 = .ok (.goto 15, 3) ∧ decode prog_10_method_15_code 24 = .ok (.aload_n 0, 1) ∧ decode prog_10_method_15_code 25 = .ok (.getfield 26, 3) ∧ decode prog_10_method_15_code 28 = .ok (.bipush 6, 2) ∧ decode prog_10_method_15_code 30 = .ok (.iload_n 1, 1) ∧ decode prog_10_method_15_code 31 = .ok (.imul, 1) ∧ decode prog_10_method_15_code 32 = .ok (.iload_n 2, 1) ∧ decode prog_10_method_15_code 33 = .ok (.iadd, 1) ∧ decode prog_10_method_15_code 34 = .ok (.iload_n 3, 1) ∧ decode prog_10_method_15_code 35 = .ok (.iastore, 1) := by decide +kernel
theorem e2_Mm_puts : decode prog_10_method_15_code 36 = .ok (.return_, 1) := by decide +kernel
def T_Mm_puts : TT := [(0, o_ild 1 1), (1, o_push (.int (iI (8))) 3), (3, o_icmp_ge 24 6), (6, o_ald 0 7), (7, o_get 8 1 10), (10, o_push (.int (iI (20))) 12), (12, o_push (.int (iI (6))) 14), (14, o_ild 1 15), (15, o_imul 16), (16, o_iadd 17), (17, o_ild 2 18), (18, o_iadd 19), (19, o_ild 3 20), (20, o_iast 21), (21, o_goto 36), (24, o_ald 0 25), (25, o_get 8 7 28), (28, o_push (.int (iI (6))) 30), (30, o_ild 1 31), (31, o_imul 32), (32, o_ild 2 33), (33, o_iadd 34), (34, o_ild 3 35), (35, o_iast 36), (36, o_vret)]
theorem k_Mm_puts : ∀ x ∈ T_Mm_puts, SO M_Mm_puts x.1 x.2 := by
  obtain ⟨h0, h1, h3, h6, h7, h10, h12, h14, h15, h16, h17, h18⟩ := e0_Mm_puts
  obtain ⟨h19, h20, h21, h24, h25, h28, h30, h31, h32, h33, h34, h35⟩ := e1_Mm_puts
  have h36 := e2_Mm_puts
  refine ac (s_ildn (M := M_Mm_puts) (pc := 0) (k := 1) h0) ?_
  refine ac (s_bipush (M := M_Mm_puts) (pc := 1) h1 (by decide)) ?_
  refine ac (s_icmp_ge (M := M_Mm_puts) (pc := 3) h3 (by decide)) ?_
  refine ac (s_aldn (M := M_Mm_puts) (pc := 6) (k := 0) h6) ?_
  refine ac (s_get (M := M_Mm_puts) (pc := 7) (T := TX8) (N := 29) h7 rfl in_X8 (by decide) wd1690) ?_
  refine ac (s_bipush (M := M_Mm_puts) (pc := 10) h10 (by decide)) ?_
  refine ac (s_bipush (M := M_Mm_puts) (pc := 12) h12 (by decide)) ?_
  refine ac (s_ildn (M := M_Mm_puts) (pc := 14) (k := 1) h14) ?_
  refine ac (s_imul (M := M_Mm_puts) (pc := 15) h15) ?_
  refine ac (s_iadd (M := M_Mm_puts) (pc := 16) h16) ?_
  refine ac (s_ildn (M := M_Mm_puts) (pc := 17) (k := 2) h17) ?_
  refine ac (s_iadd (M := M_Mm_puts) (pc := 18) h18) ?_
  refine ac (s_ildn (M := M_Mm_puts) (pc := 19) (k := 3) h19) ?_
  refine ac (s_iast (M := M_Mm_puts) (pc := 20) h20) ?_
  refine ac (s_goto (M := M_Mm_puts) (pc := 21) h21 (by decide)) ?_
  refine ac (s_aldn (M := M_Mm_puts) (pc := 24) (k := 0) h24) ?_
  refine ac (s_get (M := M_Mm_puts) (pc := 25) (T := TX8) (N := 29) h25 rfl in_X8 (by decide) wd1696) ?_
  refine ac (s_bipush (M := M_Mm_puts) (pc := 28) h28 (by decide)) ?_
  refine ac (s_ildn (M := M_Mm_puts) (pc := 30) (k := 1) h30) ?_
  refine ac (s_imul (M := M_Mm_puts) (pc := 31) h31) ?_
  refine ac (s_ildn (M := M_Mm_puts) (pc := 32) (k := 2) h32) ?_
  refine ac (s_iadd (M := M_Mm_puts) (pc := 33) h33) ?_
  refine ac (s_ildn (M := M_Mm_puts) (pc := 34) (k := 3) h34) ?_
  refine ac (s_iast (M := M_Mm_puts) (pc := 35) h35) ?_
  refine ac (s_vret (M := M_Mm_puts) (pc := 36) h36 rfl) ?_
  exact ac_nil
theorem e0_Mm_playScript : decode prog_10_method_72_code 0 = .ok (.aload_n 0, 1) ∧ decode prog_10_method_72_code 1 = .ok (.iconst 0, 1) ∧ decode prog_10_method_72_code 2 = .ok (.putfield 295, 3) ∧ decode prog_10_method_72_code 5 = .ok (.aload_n 0, 1) ∧ decode prog_10_method_72_code 6 = .ok (.iconst 0, 1) ∧ decode prog_10_method_72_code 7 = .ok (.putfield 274, 3) ∧ decode prog_10_method_72_code 10 = .ok (.aload_n 0, 1) ∧ decode prog_10_method_72_code 11 = .ok (.iconst 0, 1) ∧ decode prog_10_method_72_code 12 = .ok (.putfield 277, 3) ∧ decode prog_10_method_72_code 15 = .ok (.aload_n 0, 1) ∧ decode prog_10_method_72_code 16 = .ok (.invokevirtual 264, 3) ∧ decode prog_10_method_72_code 19 = .ok (.aload_n 0, 1) := by decide +kernel
theorem e1_Mm_playScript : decode prog_10_method_72_code 20 = .ok (.invokevirtual 198, 3) ∧ decode prog_10_method_72_code 23 = .ok (.ifCond .eq 17, 3) ∧ decode prog_10_method_72_code 26 = .ok (.aload_n 0, 1) ∧ decode prog_10_method_72_code 27 = .ok (.getfield 178, 3) ∧ decode prog_10_method_72_code 30 = .ok (.ifCond .eq 10, 3) ∧ decode prog_10_method_72_code 33 = .ok (.aload_n 0, 1) ∧ decode prog_10_method_72_code 34 = .ok (.invokevirtual 334, 3) ∧ decode prog_10_method_72_code 37 = .ok (.goto (-18), 3) ∧ decode prog_10_method_72_code 40 = .ok (.aload_n 0, 1) ∧ decode prog_10_method_72_code 41 = .ok (.iconst 0, 1) ∧ decode prog_10_method_72_code 42 = .ok (.putfield 160, 3) ∧ decode prog_10_method_72_code 45 = .ok (.aload_n 0, 1) := by decide +kernel
theorem e2_Mm_playScript : decode prog_10_method_72_code 46 = .ok (.invokevirtual 198, 3) ∧ decode prog_10_method_72_code 49 = .ok (.ifCond .ne 5, 3) ∧ decode prog_10_method_72_code 52 = .ok (.iconst (-1), 1) ∧ decode prog_10_method_72_code 53 = .ok (.ireturn, 1) ∧ decode prog_10_method_72_code 54 = .ok (.aload_n 0, 1) ∧ decode prog_10_method_72_code 55 = .ok (.invokevirtual 337, 3) ∧ decode prog_10_method_72_code 58 = .ok (.iconst 0, 1) ∧ decode prog_10_method_72_code 59 = .ok (.istore_n 1, 1) ∧ decode prog_10_method_72_code 60 = .ok (.iload_n 1, 1) ∧ decode prog_10_method_72_code 61 = .ok (.aload_n 0, 1) ∧ decode prog_10_method_72_code 62 = .ok (.getfield 295, 3) ∧ decode prog_10_method_72_code 65 = .ok (.if_icmp .ge 24, 3) := by decide +kernel
theorem e3_Mm_playScript : decode prog_10_method_72_code 68 = .ok (.aload_n 0, 1) ∧ decode prog_10_method_72_code 69 = .ok (.iload_n 1, 1) ∧ decode prog_10_method_72_code 70 = .ok (.invokevirtual 340, 3) ∧ decode prog_10_method_72_code 73 = .ok (.ifCond .ne 16, 3) ∧ decode prog_10_method_72_code 76 = .ok (.iload_n 1, 1) ∧ decode prog_10_method_72_code 77 = .ok (.iconst 1, 1) ∧ decode prog_10_method_72_code 78 = .ok (.iadd, 1) ∧ decode prog_10_method_72_code 79 = .ok (.istore_n 1, 1) ∧ decode prog_10_method_72_code 80 = .ok (.aload_n 0, 1) ∧ decode prog_10_method_72_code 81 = .ok (.bipush 7, 2) ∧ decode prog_10_method_72_code 83 = .ok (.invokevirtual 136, 3) ∧ decode prog_10_method_72_code 86 = .ok (.goto (-26), 3) := by decide +kernel
theorem e4_Mm_playScript : decode prog_10_method_72_code 89 = .ok (.iload_n 1, 1) ∧ decode prog_10_method_72_code 90 = .ok (.ireturn, 1) := by decide +kernel
def T_Mm_playScript : TT := [(0, o_ald 0 1), (1, o_push (.int (iI (0))) 2), (2, o_puti 8 18 5), (5, o_ald 0 6), (6, o_push (.int (iI (0))) 7), (7, o_puti 8 21 10), (10, o_ald 0 11), (11, o_push (.int (iI (0))) 12), (12, o_puti 8 22 15), (15, o_ald 0 16), (16, o_callV M_Mm_startsText 8 1 19), (19, o_ald 0 20), (20, o_callV M_Mm_isGood 8 1 23), (23, o_if_eq 40 26), (26, o_ald 0 27), (27, o_get 8 14 30), (30, o_if_eq 40 33), (33, o_ald 0 34), (34, o_callV M_Mm_readsStatement 8 1 37), (37, o_goto 19), (40, o_ald 0 41), (41, o_push (.int (iI (0))) 42), (42, o_puti 8 9 45), (45, o_ald 0 46), (46, o_callV M_Mm_isGood 8 1 49), (49, o_if_ne 54 52), (52, o_push (.int (iI (-1))) 53), (53, o_iret), (54, o_ald 0 55), (55, o_callV M_Mm_keeps 8 1 58), (58, o_push (.int (iI (0))) 59), (59, o_ist 1 60), (60, o_ild 1 61), (61, o_ald 0 62), (62, o_get 8 18 65), (65, o_icmp_ge 89 68), (68, o_ald 0 69), (69, o_ild 1 70), (70, o_callV M_Mm_does 8 2 73), (73, o_if_ne 89 76), (76, o_ild 1 77), (77, o_push (.int (iI (1))) 78), (78, o_iadd 79), (79, o_ist 1 80), (80, o_ald 0 81), (81, o_push (.int (iI (7))) 83), (83, o_callV M_Mm_counts 8 2 86), (86, o_goto 60), (89, o_ild 1 90), (90, o_iret)]
theorem k_Mm_playScript : ∀ x ∈ T_Mm_playScript, SO M_Mm_playScript x.1 x.2 := by
  obtain ⟨h0, h1, h2, h5, h6, h7, h10, h11, h12, h15, h16, h19⟩ := e0_Mm_playScript
  obtain ⟨h20, h23, h26, h27, h30, h33, h34, h37, h40, h41, h42, h45⟩ := e1_Mm_playScript
  obtain ⟨h46, h49, h52, h53, h54, h55, h58, h59, h60, h61, h62, h65⟩ := e2_Mm_playScript
  obtain ⟨h68, h69, h70, h73, h76, h77, h78, h79, h80, h81, h83, h86⟩ := e3_Mm_playScript
  obtain ⟨h89, h90⟩ := e4_Mm_playScript
  refine ac (s_aldn (M := M_Mm_playScript) (pc := 0) (k := 0) h0) ?_
  refine ac (s_iconst (M := M_Mm_playScript) (pc := 1) h1 rfl) ?_
  refine ac (s_puti (M := M_Mm_playScript) (pc := 2) (T := TX8) (N := 29) (ty0 := tyX8) h2 ⟨rfl, in_X8, by decide, wd1707, tyX8_ok, nmX8, (Or.inl rfl)⟩ rfl) ?_
  refine ac (s_aldn (M := M_Mm_playScript) (pc := 5) (k := 0) h5) ?_
  refine ac (s_iconst (M := M_Mm_playScript) (pc := 6) h6 rfl) ?_
  refine ac (s_puti (M := M_Mm_playScript) (pc := 7) (T := TX8) (N := 29) (ty0 := tyX8) h7 ⟨rfl, in_X8, by decide, wd1710, tyX8_ok, nmX8, (Or.inl rfl)⟩ rfl) ?_
  refine ac (s_aldn (M := M_Mm_playScript) (pc := 10) (k := 0) h10) ?_
  refine ac (s_iconst (M := M_Mm_playScript) (pc := 11) h11 rfl) ?_
  refine ac (s_puti (M := M_Mm_playScript) (pc := 12) (T := TX8) (N := 29) (ty0 := tyX8) h12 ⟨rfl, in_X8, by decide, wd1711, tyX8_ok, nmX8, (Or.inl rfl)⟩ rfl) ?_
  refine ac (s_aldn (M := M_Mm_playScript) (pc := 15) (k := 0) h15) ?_
  refine ac (s_callV (M := M_Mm_playScript) (pc := 16) (tz_Mm rfl) h16 q_Mm_startsText wd1807 wd1809 wd30 rfl (T := TX8) (N := 29) rfl) ?_
  refine ac (s_aldn (M := M_Mm_playScript) (pc := 19) (k := 0) h19) ?_
  refine ac (s_callV (M := M_Mm_playScript) (pc := 20) (tz_Mm rfl) h20 q_Mm_isGood wd1835 wd1837 wd35 rfl (T := TX8) (N := 29) rfl) ?_
  refine ac (s_if_eq (M := M_Mm_playScript) (pc := 23) h23 (by decide)) ?_
  refine ac (s_aldn (M := M_Mm_playScript) (pc := 26) (k := 0) h26) ?_
  refine ac (s_get (M := M_Mm_playScript) (pc := 27) (T := TX8) (N := 29) h27 rfl in_X8 (by decide) wd1703) ?_
  refine ac (s_if_eq (M := M_Mm_playScript) (pc := 30) h30 (by decide)) ?_
  refine ac (s_aldn (M := M_Mm_playScript) (pc := 33) (k := 0) h33) ?_
  refine ac (s_callV (M := M_Mm_playScript) (pc := 34) (tz_Mm rfl) h34 q_Mm_readsStatement wd1929 wd1931 wd54 rfl (T := TX8) (N := 29) rfl) ?_
  refine ac (s_goto (M := M_Mm_playScript) (pc := 37) h37 (by decide)) ?_
  refine ac (s_aldn (M := M_Mm_playScript) (pc := 40) (k := 0) h40) ?_
  refine ac (s_iconst (M := M_Mm_playScript) (pc := 41) h41 rfl) ?_
  refine ac (s_puti (M := M_Mm_playScript) (pc := 42) (T := TX8) (N := 29) (ty0 := tyX8) h42 ⟨rfl, in_X8, by decide, wd1698, tyX8_ok, nmX8, (Or.inl rfl)⟩ rfl) ?_
  refine ac (s_aldn (M := M_Mm_playScript) (pc := 45) (k := 0) h45) ?_
  refine ac (s_callV (M := M_Mm_playScript) (pc := 46) (tz_Mm rfl) h46 q_Mm_isGood wd1835 wd1837 wd35 rfl (T := TX8) (N := 29) rfl) ?_
  refine ac (s_if_ne (M := M_Mm_playScript) (pc := 49) h49 (by decide)) ?_
  refine ac (s_iconst (M := M_Mm_playScript) (pc := 52) h52 rfl) ?_
  refine ac (s_iret (M := M_Mm_playScript) (pc := 53) h53 rfl) ?_
  refine ac (s_aldn (M := M_Mm_playScript) (pc := 54) (k := 0) h54) ?_
  refine ac (s_callV (M := M_Mm_playScript) (pc := 55) (tz_Mm rfl) h55 q_Mm_keeps wd1964 wd1966 wd62 rfl (T := TX8) (N := 29) rfl) ?_
  refine ac (s_iconst (M := M_Mm_playScript) (pc := 58) h58 rfl) ?_
  refine ac (s_istn (M := M_Mm_playScript) (pc := 59) (k := 1) h59 (by decide)) ?_
  refine ac (s_ildn (M := M_Mm_playScript) (pc := 60) (k := 1) h60) ?_
  refine ac (s_aldn (M := M_Mm_playScript) (pc := 61) (k := 0) h61) ?_
  refine ac (s_get (M := M_Mm_playScript) (pc := 62) (T := TX8) (N := 29) h62 rfl in_X8 (by decide) wd1707) ?_
  refine ac (s_icmp_ge (M := M_Mm_playScript) (pc := 65) h65 (by decide)) ?_
  refine ac (s_aldn (M := M_Mm_playScript) (pc := 68) (k := 0) h68) ?_
  refine ac (s_ildn (M := M_Mm_playScript) (pc := 69) (k := 1) h69) ?_
  refine ac (s_callV (M := M_Mm_playScript) (pc := 70) (tz_Mm rfl) h70 q_Mm_does wd1968 wd1970 wd63 rfl (T := TX8) (N := 29) rfl) ?_
  refine ac (s_if_ne (M := M_Mm_playScript) (pc := 73) h73 (by decide)) ?_
  refine ac (s_ildn (M := M_Mm_playScript) (pc := 76) (k := 1) h76) ?_
  refine ac (s_iconst (M := M_Mm_playScript) (pc := 77) h77 rfl) ?_
  refine ac (s_iadd (M := M_Mm_playScript) (pc := 78) h78) ?_
  refine ac (s_istn (M := M_Mm_playScript) (pc := 79) (k := 1) h79 (by decide)) ?_
  refine ac (s_aldn (M := M_Mm_playScript) (pc := 80) (k := 0) h80) ?_
  refine ac (s_bipush (M := M_Mm_playScript) (pc := 81) h81 (by decide)) ?_
  refine ac (s_callV (M := M_Mm_playScript) (pc := 83) (tz_Mm rfl) h83 q_Mm_counts wd2025 wd2027 wd75 rfl (T := TX8) (N := 29) rfl) ?_
  refine ac (s_goto (M := M_Mm_playScript) (pc := 86) h86 (by decide)) ?_
  refine ac (s_ildn (M := M_Mm_playScript) (pc := 89) (k := 1) h89) ?_
  refine ac (s_iret (M := M_Mm_playScript) (pc := 90) h90 rfl) ?_
  exact ac_nil
theorem e0_Mm_readsStatement : decode prog_10_method_68_code 0 = .ok (.aload_n 0, 1) ∧ decode prog_10_method_68_code 1 = .ok (.ldc_w 298, 3) ∧ decode prog_10_method_68_code 4 = .ok (.invokevirtual 248, 3) ∧ decode prog_10_method_68_code 7 = .ok (.ifCond .ne 33, 3) ∧ decode prog_10_method_68_code 10 = .ok (.aload_n 0, 1) ∧ decode prog_10_method_68_code 11 = .ok (.ldc_w 300, 3) ∧ decode prog_10_method_68_code 14 = .ok (.invokevirtual 248, 3) ∧ decode prog_10_method_68_code 17 = .ok (.ifCond .ne 23, 3) ∧ decode prog_10_method_68_code 20 = .ok (.aload_n 0, 1) ∧ decode prog_10_method_68_code 21 = .ok (.ldc_w 302, 3) ∧ decode prog_10_method_68_code 24 = .ok (.invokevirtual 248, 3) ∧ decode prog_10_method_68_code 27 = .ok (.ifCond .ne 13, 3) := by decide +kernel
theorem e1_Mm_readsStatement : decode prog_10_method_68_code 30 = .ok (.aload_n 0, 1) ∧ decode prog_10_method_68_code 31 = .ok (.ldc_w 257, 3) ∧ decode prog_10_method_68_code 34 = .ok (.invokevirtual 248, 3) ∧ decode prog_10_method_68_code 37 = .ok (.ifCond .eq 7, 3) ∧ decode prog_10_method_68_code 40 = .ok (.iconst 1, 1) ∧ decode prog_10_method_68_code 41 = .ok (.goto 4, 3) ∧ decode prog_10_method_68_code 44 = .ok (.iconst 0, 1) ∧ decode prog_10_method_68_code 45 = .ok (.istore_n 1, 1) ∧ decode prog_10_method_68_code 46 = .ok (.iload_n 1, 1) ∧ decode prog_10_method_68_code 47 = .ok (.ifCond .ne 15, 3) ∧ decode prog_10_method_68_code 50 = .ok (.aload_n 0, 1) ∧ decode prog_10_method_68_code 51 = .ok (.invokevirtual 222, 3) := by decide +kernel
theorem e2_Mm_readsStatement : decode prog_10_method_68_code 54 = .ok (.ifCond .ne 8, 3) ∧ decode prog_10_method_68_code 57 = .ok (.aload_n 0, 1) ∧ decode prog_10_method_68_code 58 = .ok (.iconst 1, 1) ∧ decode prog_10_method_68_code 59 = .ok (.invokevirtual 214, 3) ∧ decode prog_10_method_68_code 62 = .ok (.aload_n 0, 1) ∧ decode prog_10_method_68_code 63 = .ok (.getfield 295, 3) ∧ decode prog_10_method_68_code 66 = .ok (.bipush 20, 2) ∧ decode prog_10_method_68_code 68 = .ok (.if_icmp .ne 8, 3) ∧ decode prog_10_method_68_code 71 = .ok (.aload_n 0, 1) ∧ decode prog_10_method_68_code 72 = .ok (.iconst 5, 1) ∧ decode prog_10_method_68_code 73 = .ok (.invokevirtual 214, 3) ∧ decode prog_10_method_68_code 76 = .ok (.aload_n 0, 1) := by decide +kernel
theorem e3_Mm_readsStatement : decode prog_10_method_68_code 77 = .ok (.invokevirtual 198, 3) ∧ decode prog_10_method_68_code 80 = .ok (.ifCond .ne 4, 3) ∧ decode prog_10_method_68_code 83 = .ok (.return_, 1) ∧ decode prog_10_method_68_code 84 = .ok (.aload_n 0, 1) ∧ decode prog_10_method_68_code 85 = .ok (.getfield 274, 3) ∧ decode prog_10_method_68_code 88 = .ok (.istore_n 2, 1) ∧ decode prog_10_method_68_code 89 = .ok (.aload_n 0, 1) ∧ decode prog_10_method_68_code 90 = .ok (.ldc_w 298, 3) ∧ decode prog_10_method_68_code 93 = .ok (.invokevirtual 248, 3) ∧ decode prog_10_method_68_code 96 = .ok (.ifCond .eq 7, 3) ∧ decode prog_10_method_68_code 99 = .ok (.iconst 1, 1) ∧ decode prog_10_method_68_code 100 = .ok (.goto 46, 3) := by decide +kernel
theorem e4_Mm_readsStatement : decode prog_10_method_68_code 103 = .ok (.aload_n 0, 1) ∧ decode prog_10_method_68_code 104 = .ok (.ldc_w 300, 3) ∧ decode prog_10_method_68_code 107 = .ok (.invokevirtual 248, 3) ∧ decode prog_10_method_68_code 110 = .ok (.ifCond .eq 7, 3) ∧ decode prog_10_method_68_code 113 = .ok (.iconst 2, 1) ∧ decode prog_10_method_68_code 114 = .ok (.goto 32, 3) ∧ decode prog_10_method_68_code 117 = .ok (.aload_n 0, 1) ∧ decode prog_10_method_68_code 118 = .ok (.ldc_w 302, 3) ∧ decode prog_10_method_68_code 121 = .ok (.invokevirtual 248, 3) ∧ decode prog_10_method_68_code 124 = .ok (.ifCond .eq 7, 3) ∧ decode prog_10_method_68_code 127 = .ok (.iconst 3, 1) ∧ decode prog_10_method_68_code 128 = .ok (.goto 18, 3) := by decide +kernel
theorem e5_Mm_readsStatement : decode prog_10_method_68_code 131 = .ok (.aload_n 0, 1) ∧ decode prog_10_method_68_code 132 = .ok (.ldc_w 257, 3) ∧ decode prog_10_method_68_code 135 = .ok (.invokevirtual 248, 3) ∧ decode prog_10_method_68_code 138 = .ok (.ifCond .eq 7, 3) ∧ decode prog_10_method_68_code 141 = .ok (.iconst 4, 1) ∧ decode prog_10_method_68_code 142 = .ok (.goto 4, 3) ∧ decode prog_10_method_68_code 145 = .ok (.iconst 0, 1) ∧ decode prog_10_method_68_code 146 = .ok (.istore_n 3, 1) ∧ decode prog_10_method_68_code 147 = .ok (.iload_n 3, 1) ∧ decode prog_10_method_68_code 148 = .ok (.ifCond .eq 7, 3) ∧ decode prog_10_method_68_code 151 = .ok (.aload_n 0, 1) ∧ decode prog_10_method_68_code 152 = .ok (.invokevirtual 195, 3) := by decide +kernel
theorem e6_Mm_readsStatement : decode prog_10_method_68_code 155 = .ok (.iload_n 3, 1) ∧ decode prog_10_method_68_code 156 = .ok (.iconst 4, 1) ∧ decode prog_10_method_68_code 157 = .ok (.if_icmp .ne 12, 3) ∧ decode prog_10_method_68_code 160 = .ok (.aload_n 0, 1) ∧ decode prog_10_method_68_code 161 = .ok (.lconst 0, 1) ∧ decode prog_10_method_68_code 162 = .ok (.lconst 1, 1) ∧ decode prog_10_method_68_code 163 = .ok (.invokevirtual 239, 3) ∧ decode prog_10_method_68_code 166 = .ok (.goto 7, 3) ∧ decode prog_10_method_68_code 169 = .ok (.aload_n 0, 1) ∧ decode prog_10_method_68_code 170 = .ok (.invokevirtual 304, 3) ∧ decode prog_10_method_68_code 173 = .ok (.istore 4, 2) ∧ decode prog_10_method_68_code 175 = .ok (.iconst 0, 1) := by decide +kernel
theorem e7_Mm_readsStatement : decode prog_10_method_68_code 176 = .ok (.istore 5, 2) ∧ decode prog_10_method_68_code 178 = .ok (.iload_n 3, 1) ∧ decode prog_10_method_68_code 179 = .ok (.iconst 1, 1) ∧ decode prog_10_method_68_code 180 = .ok (.if_icmp .ne 17, 3) ∧ decode prog_10_method_68_code 183 = .ok (.aload_n 0, 1) ∧ decode prog_10_method_68_code 184 = .ok (.lconst 0, 1) ∧ decode prog_10_method_68_code 185 = .ok (.aload_n 0, 1) ∧ decode prog_10_method_68_code 186 = .ok (.invokevirtual 61, 3) ∧ decode prog_10_method_68_code 189 = .ok (.iconst 1, 1) ∧ decode prog_10_method_68_code 190 = .ok (.isub, 1) ∧ decode prog_10_method_68_code 191 = .ok (.i2l, 1) ∧ decode prog_10_method_68_code 192 = .ok (.invokevirtual 239, 3) := by decide +kernel
theorem e8_Mm_readsStatement : decode prog_10_method_68_code 195 = .ok (.istore 5, 2) ∧ decode prog_10_method_68_code 197 = .ok (.iload_n 3, 1) ∧ decode prog_10_method_68_code 198 = .ok (.iconst 2, 1) ∧ decode prog_10_method_68_code 199 = .ok (.if_icmp .ne 9, 3) ∧ decode prog_10_method_68_code 202 = .ok (.aload_n 0, 1) ∧ decode prog_10_method_68_code 203 = .ok (.invokevirtual 304, 3) ∧ decode prog_10_method_68_code 206 = .ok (.istore 5, 2) ∧ decode prog_10_method_68_code 208 = .ok (.iload_n 3, 1) ∧ decode prog_10_method_68_code 209 = .ok (.ifCond .ne 20, 3) ∧ decode prog_10_method_68_code 212 = .ok (.aload_n 0, 1) ∧ decode prog_10_method_68_code 213 = .ok (.bipush 61, 2) ∧ decode prog_10_method_68_code 215 = .ok (.invokevirtual 243, 3) := by decide +kernel
theorem e9_Mm_readsStatement : decode prog_10_method_68_code 218 = .ok (.aload_n 0, 1) ∧ decode prog_10_method_68_code 219 = .ok (.invokevirtual 198, 3) ∧ decode prog_10_method_68_code 222 = .ok (.ifCond .eq 7, 3) ∧ decode prog_10_method_68_code 225 = .ok (.aload_n 0, 1) ∧ decode prog_10_method_68_code 226 = .ok (.invokevirtual 289, 3) ∧ decode prog_10_method_68_code 229 = .ok (.aload_n 0, 1) ∧ decode prog_10_method_68_code 230 = .ok (.bipush 59, 2) ∧ decode prog_10_method_68_code 232 = .ok (.invokevirtual 243, 3) ∧ decode prog_10_method_68_code 235 = .ok (.aload_n 0, 1) ∧ decode prog_10_method_68_code 236 = .ok (.iload_n 3, 1) ∧ decode prog_10_method_68_code 237 = .ok (.iload 4, 2) ∧ decode prog_10_method_68_code 239 = .ok (.iload 5, 2) := by decide +kernel
theorem e10_Mm_readsStatement : decode prog_10_method_68_code 241 = .ok (.iload_n 2, 1) ∧ decode prog_10_method_68_code 242 = .ok (.invokevirtual 307, 3) ∧ decode prog_10_method_68_code 245 = .ok (.return_, 1) := by decide +kernel
def T_Mm_readsStatement : TT := [(0, o_ald 0 1), (1, o_push (.ref 1014) 4), (4, o_callV M_Mm_isWord 8 2 7), (7, o_if_ne 40 10), (10, o_ald 0 11), (11, o_push (.ref 1015) 14), (14, o_callV M_Mm_isWord 8 2 17), (17, o_if_ne 40 20), (20, o_ald 0 21), (21, o_push (.ref 1016) 24), (24, o_callV M_Mm_isWord 8 2 27), (27, o_if_ne 40 30), (30, o_ald 0 31), (31, o_push (.ref 1012) 34), (34, o_callV M_Mm_isWord 8 2 37), (37, o_if_eq 44 40), (40, o_push (.int (iI (1))) 41), (41, o_goto 45), (44, o_push (.int (iI (0))) 45), (45, o_ist 1 46), (46, o_ild 1 47), (47, o_if_ne 62 50), (50, o_ald 0 51), (51, o_callV M_Mm_isLetter 8 1 54), (54, o_if_ne 62 57), (57, o_ald 0 58), (58, o_push (.int (iI (1))) 59), (59, o_callV M_Mm_errs 8 2 62), (62, o_ald 0 63), (63, o_get 8 18 66), (66, o_push (.int (iI (20))) 68), (68, o_icmp_ne 76 71), (71, o_ald 0 72), (72, o_push (.int (iI (5))) 73), (73, o_callV M_Mm_errs 8 2 76), (76, o_ald 0 77), (77, o_callV M_Mm_isGood 8 1 80), (80, o_if_ne 84 83), (83, o_vret), (84, o_ald 0 85), (85, o_get 8 21 88), (88, o_ist 2 89), (89, o_ald 0 90), (90, o_push (.ref 1014) 93), (93, o_callV M_Mm_isWord 8 2 96), (96, o_if_eq 103 99), (99, o_push (.int (iI (1))) 100), (100, o_goto 146), (103, o_ald 0 104), (104, o_push (.ref 1015) 107), (107, o_callV M_Mm_isWord 8 2 110), (110, o_if_eq 117 113), (113, o_push (.int (iI (2))) 114), (114, o_goto 146), (117, o_ald 0 118), (118, o_push (.ref 1016) 121), (121, o_callV M_Mm_isWord 8 2 124), (124, o_if_eq 131 127), (127, o_push (.int (iI (3))) 128), (128, o_goto 146), (131, o_ald 0 132), (132, o_push (.ref 1012) 135), (135, o_callV M_Mm_isWord 8 2 138), (138, o_if_eq 145 141), (141, o_push (.int (iI (4))) 142), (142, o_goto 146), (145, o_push (.int (iI (0))) 146), (146, o_ist 3 147), (147, o_ild 3 148), (148, o_if_eq 155 151), (151, o_ald 0 152), (152, o_callV M_Mm_scans 8 1 155), (155, o_ild 3 156), (156, o_push (.int (iI (4))) 157), (157, o_icmp_ne 169 160), (160, o_ald 0 161), (161, o_push (.long (lI 0)) 162), (162, o_push (.long (lI 1)) 163), (163, o_callV M_Mm_number_JJ 8 3 166), (166, o_goto 173), (169, o_ald 0 170), (170, o_callV M_Mm_register 8 1 173), (173, o_ist 4 175), (175, o_push (.int (iI (0))) 176), (176, o_ist 5 178), (178, o_ild 3 179), (179, o_push (.int (iI (1))) 180), (180, o_icmp_ne 197 183), (183, o_ald 0 184), (184, o_push (.long (lI 0)) 185), (185, o_ald 0 186), (186, o_callV M_Mm_many 8 1 189), (189, o_push (.int (iI (1))) 190), (190, o_isub 191), (191, o_i2l 192), (192, o_callV M_Mm_number_JJ 8 3 195), (195, o_ist 5 197), (197, o_ild 3 198), (198, o_push (.int (iI (2))) 199), (199, o_icmp_ne 208 202), (202, o_ald 0 203), (203, o_callV M_Mm_register 8 1 206), (206, o_ist 5 208), (208, o_ild 3 209), (209, o_if_ne 229 212), (212, o_ald 0 213), (213, o_push (.int (iI (61))) 215), (215, o_callV M_Mm_sign 8 2 218), (218, o_ald 0 219), (219, o_callV M_Mm_isGood 8 1 222), (222, o_if_eq 229 225), (225, o_ald 0 226), (226, o_callV M_Mm_readsSum 8 1 229), (229, o_ald 0 230), (230, o_push (.int (iI (59))) 232), (232, o_callV M_Mm_sign 8 2 235), (235, o_ald 0 236), (236, o_ild 3 237), (237, o_ild 4 239), (239, o_ild 5 241), (241, o_ild 2 242), (242, o_callV M_Mm_adds 8 5 245), (245, o_vret)]
theorem k_Mm_readsStatement : ∀ x ∈ T_Mm_readsStatement, SO M_Mm_readsStatement x.1 x.2 := by
  obtain ⟨h0, h1, h4, h7, h10, h11, h14, h17, h20, h21, h24, h27⟩ := e0_Mm_readsStatement
  obtain ⟨h30, h31, h34, h37, h40, h41, h44, h45, h46, h47, h50, h51⟩ := e1_Mm_readsStatement
  obtain ⟨h54, h57, h58, h59, h62, h63, h66, h68, h71, h72, h73, h76⟩ := e2_Mm_readsStatement
  obtain ⟨h77, h80, h83, h84, h85, h88, h89, h90, h93, h96, h99, h100⟩ := e3_Mm_readsStatement
  obtain ⟨h103, h104, h107, h110, h113, h114, h117, h118, h121, h124, h127, h128⟩ := e4_Mm_readsStatement
  obtain ⟨h131, h132, h135, h138, h141, h142, h145, h146, h147, h148, h151, h152⟩ := e5_Mm_readsStatement
  obtain ⟨h155, h156, h157, h160, h161, h162, h163, h166, h169, h170, h173, h175⟩ := e6_Mm_readsStatement
  obtain ⟨h176, h178, h179, h180, h183, h184, h185, h186, h189, h190, h191, h192⟩ := e7_Mm_readsStatement
  obtain ⟨h195, h197, h198, h199, h202, h203, h206, h208, h209, h212, h213, h215⟩ := e8_Mm_readsStatement
  obtain ⟨h218, h219, h222, h225, h226, h229, h230, h232, h235, h236, h237, h239⟩ := e9_Mm_readsStatement
  obtain ⟨h241, h242, h245⟩ := e10_Mm_readsStatement
  refine ac (s_aldn (M := M_Mm_readsStatement) (pc := 0) (k := 0) h0) ?_
  refine ac (s_ldcSW (M := M_Mm_readsStatement) (pc := 1) (i := 14) h1 rfl) ?_
  refine ac (s_callV (M := M_Mm_readsStatement) (pc := 4) (tz_Mm rfl) h4 q_Mm_isWord wd1831 wd1833 wd34 rfl (T := TX8) (N := 29) rfl) ?_
  refine ac (s_if_ne (M := M_Mm_readsStatement) (pc := 7) h7 (by decide)) ?_
  refine ac (s_aldn (M := M_Mm_readsStatement) (pc := 10) (k := 0) h10) ?_
  refine ac (s_ldcSW (M := M_Mm_readsStatement) (pc := 11) (i := 15) h11 rfl) ?_
  refine ac (s_callV (M := M_Mm_readsStatement) (pc := 14) (tz_Mm rfl) h14 q_Mm_isWord wd1831 wd1833 wd34 rfl (T := TX8) (N := 29) rfl) ?_
  refine ac (s_if_ne (M := M_Mm_readsStatement) (pc := 17) h17 (by decide)) ?_
  refine ac (s_aldn (M := M_Mm_readsStatement) (pc := 20) (k := 0) h20) ?_
  refine ac (s_ldcSW (M := M_Mm_readsStatement) (pc := 21) (i := 16) h21 rfl) ?_
  refine ac (s_callV (M := M_Mm_readsStatement) (pc := 24) (tz_Mm rfl) h24 q_Mm_isWord wd1831 wd1833 wd34 rfl (T := TX8) (N := 29) rfl) ?_
  refine ac (s_if_ne (M := M_Mm_readsStatement) (pc := 27) h27 (by decide)) ?_
  refine ac (s_aldn (M := M_Mm_readsStatement) (pc := 30) (k := 0) h30) ?_
  refine ac (s_ldcSW (M := M_Mm_readsStatement) (pc := 31) (i := 12) h31 rfl) ?_
  refine ac (s_callV (M := M_Mm_readsStatement) (pc := 34) (tz_Mm rfl) h34 q_Mm_isWord wd1831 wd1833 wd34 rfl (T := TX8) (N := 29) rfl) ?_
  refine ac (s_if_eq (M := M_Mm_readsStatement) (pc := 37) h37 (by decide)) ?_
  refine ac (s_iconst (M := M_Mm_readsStatement) (pc := 40) h40 rfl) ?_
  refine ac (s_goto (M := M_Mm_readsStatement) (pc := 41) h41 (by decide)) ?_
  refine ac (s_iconst (M := M_Mm_readsStatement) (pc := 44) h44 rfl) ?_
  refine ac (s_istn (M := M_Mm_readsStatement) (pc := 45) (k := 1) h45 (by decide)) ?_
  refine ac (s_ildn (M := M_Mm_readsStatement) (pc := 46) (k := 1) h46) ?_
  refine ac (s_if_ne (M := M_Mm_readsStatement) (pc := 47) h47 (by decide)) ?_
  refine ac (s_aldn (M := M_Mm_readsStatement) (pc := 50) (k := 0) h50) ?_
  refine ac (s_callV (M := M_Mm_readsStatement) (pc := 51) (tz_Mm rfl) h51 q_Mm_isLetter wd1901 wd1903 wd49 rfl (T := TX8) (N := 29) rfl) ?_
  refine ac (s_if_ne (M := M_Mm_readsStatement) (pc := 54) h54 (by decide)) ?_
  refine ac (s_aldn (M := M_Mm_readsStatement) (pc := 57) (k := 0) h57) ?_
  refine ac (s_iconst (M := M_Mm_readsStatement) (pc := 58) h58 rfl) ?_
  refine ac (s_callV (M := M_Mm_readsStatement) (pc := 59) (tz_Mm rfl) h59 q_Mm_errs wd1841 wd1843 wd36 rfl (T := TX8) (N := 29) rfl) ?_
  refine ac (s_aldn (M := M_Mm_readsStatement) (pc := 62) (k := 0) h62) ?_
  refine ac (s_get (M := M_Mm_readsStatement) (pc := 63) (T := TX8) (N := 29) h63 rfl in_X8 (by decide) wd1707) ?_
  refine ac (s_bipush (M := M_Mm_readsStatement) (pc := 66) h66 (by decide)) ?_
  refine ac (s_icmp_ne (M := M_Mm_readsStatement) (pc := 68) h68 (by decide)) ?_
  refine ac (s_aldn (M := M_Mm_readsStatement) (pc := 71) (k := 0) h71) ?_
  refine ac (s_iconst (M := M_Mm_readsStatement) (pc := 72) h72 rfl) ?_
  refine ac (s_callV (M := M_Mm_readsStatement) (pc := 73) (tz_Mm rfl) h73 q_Mm_errs wd1841 wd1843 wd36 rfl (T := TX8) (N := 29) rfl) ?_
  refine ac (s_aldn (M := M_Mm_readsStatement) (pc := 76) (k := 0) h76) ?_
  refine ac (s_callV (M := M_Mm_readsStatement) (pc := 77) (tz_Mm rfl) h77 q_Mm_isGood wd1835 wd1837 wd35 rfl (T := TX8) (N := 29) rfl) ?_
  refine ac (s_if_ne (M := M_Mm_readsStatement) (pc := 80) h80 (by decide)) ?_
  refine ac (s_vret (M := M_Mm_readsStatement) (pc := 83) h83 rfl) ?_
  refine ac (s_aldn (M := M_Mm_readsStatement) (pc := 84) (k := 0) h84) ?_
  refine ac (s_get (M := M_Mm_readsStatement) (pc := 85) (T := TX8) (N := 29) h85 rfl in_X8 (by decide) wd1710) ?_
  refine ac (s_istn (M := M_Mm_readsStatement) (pc := 88) (k := 2) h88 (by decide)) ?_
  refine ac (s_aldn (M := M_Mm_readsStatement) (pc := 89) (k := 0) h89) ?_
  refine ac (s_ldcSW (M := M_Mm_readsStatement) (pc := 90) (i := 14) h90 rfl) ?_
  refine ac (s_callV (M := M_Mm_readsStatement) (pc := 93) (tz_Mm rfl) h93 q_Mm_isWord wd1831 wd1833 wd34 rfl (T := TX8) (N := 29) rfl) ?_
  refine ac (s_if_eq (M := M_Mm_readsStatement) (pc := 96) h96 (by decide)) ?_
  refine ac (s_iconst (M := M_Mm_readsStatement) (pc := 99) h99 rfl) ?_
  refine ac (s_goto (M := M_Mm_readsStatement) (pc := 100) h100 (by decide)) ?_
  refine ac (s_aldn (M := M_Mm_readsStatement) (pc := 103) (k := 0) h103) ?_
  refine ac (s_ldcSW (M := M_Mm_readsStatement) (pc := 104) (i := 15) h104 rfl) ?_
  refine ac (s_callV (M := M_Mm_readsStatement) (pc := 107) (tz_Mm rfl) h107 q_Mm_isWord wd1831 wd1833 wd34 rfl (T := TX8) (N := 29) rfl) ?_
  refine ac (s_if_eq (M := M_Mm_readsStatement) (pc := 110) h110 (by decide)) ?_
  refine ac (s_iconst (M := M_Mm_readsStatement) (pc := 113) h113 rfl) ?_
  refine ac (s_goto (M := M_Mm_readsStatement) (pc := 114) h114 (by decide)) ?_
  refine ac (s_aldn (M := M_Mm_readsStatement) (pc := 117) (k := 0) h117) ?_
  refine ac (s_ldcSW (M := M_Mm_readsStatement) (pc := 118) (i := 16) h118 rfl) ?_
  refine ac (s_callV (M := M_Mm_readsStatement) (pc := 121) (tz_Mm rfl) h121 q_Mm_isWord wd1831 wd1833 wd34 rfl (T := TX8) (N := 29) rfl) ?_
  refine ac (s_if_eq (M := M_Mm_readsStatement) (pc := 124) h124 (by decide)) ?_
  refine ac (s_iconst (M := M_Mm_readsStatement) (pc := 127) h127 rfl) ?_
  refine ac (s_goto (M := M_Mm_readsStatement) (pc := 128) h128 (by decide)) ?_
  refine ac (s_aldn (M := M_Mm_readsStatement) (pc := 131) (k := 0) h131) ?_
  refine ac (s_ldcSW (M := M_Mm_readsStatement) (pc := 132) (i := 12) h132 rfl) ?_
  refine ac (s_callV (M := M_Mm_readsStatement) (pc := 135) (tz_Mm rfl) h135 q_Mm_isWord wd1831 wd1833 wd34 rfl (T := TX8) (N := 29) rfl) ?_
  refine ac (s_if_eq (M := M_Mm_readsStatement) (pc := 138) h138 (by decide)) ?_
  refine ac (s_iconst (M := M_Mm_readsStatement) (pc := 141) h141 rfl) ?_
  refine ac (s_goto (M := M_Mm_readsStatement) (pc := 142) h142 (by decide)) ?_
  refine ac (s_iconst (M := M_Mm_readsStatement) (pc := 145) h145 rfl) ?_
  refine ac (s_istn (M := M_Mm_readsStatement) (pc := 146) (k := 3) h146 (by decide)) ?_
  refine ac (s_ildn (M := M_Mm_readsStatement) (pc := 147) (k := 3) h147) ?_
  refine ac (s_if_eq (M := M_Mm_readsStatement) (pc := 148) h148 (by decide)) ?_
  refine ac (s_aldn (M := M_Mm_readsStatement) (pc := 151) (k := 0) h151) ?_
  refine ac (s_callV (M := M_Mm_readsStatement) (pc := 152) (tz_Mm rfl) h152 q_Mm_scans wd1811 wd1813 wd31 rfl (T := TX8) (N := 29) rfl) ?_
  refine ac (s_ildn (M := M_Mm_readsStatement) (pc := 155) (k := 3) h155) ?_
  refine ac (s_iconst (M := M_Mm_readsStatement) (pc := 156) h156 rfl) ?_
  refine ac (s_icmp_ne (M := M_Mm_readsStatement) (pc := 157) h157 (by decide)) ?_
  refine ac (s_aldn (M := M_Mm_readsStatement) (pc := 160) (k := 0) h160) ?_
  refine ac (s_lconst (M := M_Mm_readsStatement) (pc := 161) h161 (by decide)) ?_
  refine ac (s_lconst (M := M_Mm_readsStatement) (pc := 162) h162 (by decide)) ?_
  refine ac (s_callV (M := M_Mm_readsStatement) (pc := 163) (tz_Mm rfl) h163 q_Mm_number_JJ wd1887 wd1889 wd46 rfl (T := TX8) (N := 29) rfl) ?_
  refine ac (s_goto (M := M_Mm_readsStatement) (pc := 166) h166 (by decide)) ?_
  refine ac (s_aldn (M := M_Mm_readsStatement) (pc := 169) (k := 0) h169) ?_
  refine ac (s_callV (M := M_Mm_readsStatement) (pc := 170) (tz_Mm rfl) h170 q_Mm_register wd1936 wd1938 wd55 rfl (T := TX8) (N := 29) rfl) ?_
  refine ac (s_ist (M := M_Mm_readsStatement) (pc := 173) h173 (by decide)) ?_
  refine ac (s_iconst (M := M_Mm_readsStatement) (pc := 175) h175 rfl) ?_
  refine ac (s_ist (M := M_Mm_readsStatement) (pc := 176) h176 (by decide)) ?_
  refine ac (s_ildn (M := M_Mm_readsStatement) (pc := 178) (k := 3) h178) ?_
  refine ac (s_iconst (M := M_Mm_readsStatement) (pc := 179) h179 rfl) ?_
  refine ac (s_icmp_ne (M := M_Mm_readsStatement) (pc := 180) h180 (by decide)) ?_
  refine ac (s_aldn (M := M_Mm_readsStatement) (pc := 183) (k := 0) h183) ?_
  refine ac (s_lconst (M := M_Mm_readsStatement) (pc := 184) h184 (by decide)) ?_
  refine ac (s_aldn (M := M_Mm_readsStatement) (pc := 185) (k := 0) h185) ?_
  refine ac (s_callV (M := M_Mm_readsStatement) (pc := 186) (tz_Mm rfl) h186 q_Mm_many wd1849 wd1851 wd38 rfl (T := TX8) (N := 29) rfl) ?_
  refine ac (s_iconst (M := M_Mm_readsStatement) (pc := 189) h189 rfl) ?_
  refine ac (s_isub (M := M_Mm_readsStatement) (pc := 190) h190) ?_
  refine ac (s_i2l (M := M_Mm_readsStatement) (pc := 191) h191) ?_
  refine ac (s_callV (M := M_Mm_readsStatement) (pc := 192) (tz_Mm rfl) h192 q_Mm_number_JJ wd1887 wd1889 wd46 rfl (T := TX8) (N := 29) rfl) ?_
  refine ac (s_ist (M := M_Mm_readsStatement) (pc := 195) h195 (by decide)) ?_
  refine ac (s_ildn (M := M_Mm_readsStatement) (pc := 197) (k := 3) h197) ?_
  refine ac (s_iconst (M := M_Mm_readsStatement) (pc := 198) h198 rfl) ?_
  refine ac (s_icmp_ne (M := M_Mm_readsStatement) (pc := 199) h199 (by decide)) ?_
  refine ac (s_aldn (M := M_Mm_readsStatement) (pc := 202) (k := 0) h202) ?_
  refine ac (s_callV (M := M_Mm_readsStatement) (pc := 203) (tz_Mm rfl) h203 q_Mm_register wd1936 wd1938 wd55 rfl (T := TX8) (N := 29) rfl) ?_
  refine ac (s_ist (M := M_Mm_readsStatement) (pc := 206) h206 (by decide)) ?_
  refine ac (s_ildn (M := M_Mm_readsStatement) (pc := 208) (k := 3) h208) ?_
  refine ac (s_if_ne (M := M_Mm_readsStatement) (pc := 209) h209 (by decide)) ?_
  refine ac (s_aldn (M := M_Mm_readsStatement) (pc := 212) (k := 0) h212) ?_
  refine ac (s_bipush (M := M_Mm_readsStatement) (pc := 213) h213 (by decide)) ?_
  refine ac (s_callV (M := M_Mm_readsStatement) (pc := 215) (tz_Mm rfl) h215 q_Mm_sign wd1878 wd1880 wd44 rfl (T := TX8) (N := 29) rfl) ?_
  refine ac (s_aldn (M := M_Mm_readsStatement) (pc := 218) (k := 0) h218) ?_
  refine ac (s_callV (M := M_Mm_readsStatement) (pc := 219) (tz_Mm rfl) h219 q_Mm_isGood wd1835 wd1837 wd35 rfl (T := TX8) (N := 29) rfl) ?_
  refine ac (s_if_eq (M := M_Mm_readsStatement) (pc := 222) h222 (by decide)) ?_
  refine ac (s_aldn (M := M_Mm_readsStatement) (pc := 225) (k := 0) h225) ?_
  refine ac (s_callV (M := M_Mm_readsStatement) (pc := 226) (tz_Mm rfl) h226 q_Mm_readsSum wd1940 wd1942 wd56 rfl (T := TX8) (N := 29) rfl) ?_
  refine ac (s_aldn (M := M_Mm_readsStatement) (pc := 229) (k := 0) h229) ?_
  refine ac (s_bipush (M := M_Mm_readsStatement) (pc := 230) h230 (by decide)) ?_
  refine ac (s_callV (M := M_Mm_readsStatement) (pc := 232) (tz_Mm rfl) h232 q_Mm_sign wd1878 wd1880 wd44 rfl (T := TX8) (N := 29) rfl) ?_
  refine ac (s_aldn (M := M_Mm_readsStatement) (pc := 235) (k := 0) h235) ?_
  refine ac (s_ildn (M := M_Mm_readsStatement) (pc := 236) (k := 3) h236) ?_
  refine ac (s_ild (M := M_Mm_readsStatement) (pc := 237) h237) ?_
  refine ac (s_ild (M := M_Mm_readsStatement) (pc := 239) h239) ?_
  refine ac (s_ildn (M := M_Mm_readsStatement) (pc := 241) (k := 2) h241) ?_
  refine ac (s_callV (M := M_Mm_readsStatement) (pc := 242) (tz_Mm rfl) h242 q_Mm_adds wd1960 wd1962 wd61 rfl (T := TX8) (N := 29) rfl) ?_
  refine ac (s_vret (M := M_Mm_readsStatement) (pc := 245) h245 rfl) ?_
  exact ac_nil
theorem e0_Mm_register : decode prog_10_method_55_code 0 = .ok (.aload_n 0, 1) ∧ decode prog_10_method_55_code 1 = .ok (.invokevirtual 225, 3) ∧ decode prog_10_method_55_code 4 = .ok (.istore_n 1, 1) ∧ decode prog_10_method_55_code 5 = .ok (.aload_n 0, 1) ∧ decode prog_10_method_55_code 6 = .ok (.invokevirtual 217, 3) ∧ decode prog_10_method_55_code 9 = .ok (.iload_n 1, 1) ∧ decode prog_10_method_55_code 10 = .ok (.ireturn, 1) := by decide +kernel
def T_Mm_register : TT := [(0, o_ald 0 1), (1, o_callV M_Mm_registerHere 8 1 4), (4, o_ist 1 5), (5, o_ald 0 6), (6, o_callV M_Mm_goesOn 8 1 9), (9, o_ild 1 10), (10, o_iret)]
theorem k_Mm_register : ∀ x ∈ T_Mm_register, SO M_Mm_register x.1 x.2 := by
  obtain ⟨h0, h1, h4, h5, h6, h9, h10⟩ := e0_Mm_register
  refine ac (s_aldn (M := M_Mm_register) (pc := 0) (k := 0) h0) ?_
  refine ac (s_callV (M := M_Mm_register) (pc := 1) (tz_Mm rfl) h1 q_Mm_registerHere wd1897 wd1899 wd48 rfl (T := TX8) (N := 29) rfl) ?_
  refine ac (s_istn (M := M_Mm_register) (pc := 4) (k := 1) h4 (by decide)) ?_
  refine ac (s_aldn (M := M_Mm_register) (pc := 5) (k := 0) h5) ?_
  refine ac (s_callV (M := M_Mm_register) (pc := 6) (tz_Mm rfl) h6 q_Mm_goesOn wd1845 wd1847 wd37 rfl (T := TX8) (N := 29) rfl) ?_
  refine ac (s_ildn (M := M_Mm_register) (pc := 9) (k := 1) h9) ?_
  refine ac (s_iret (M := M_Mm_register) (pc := 10) h10 rfl) ?_
  exact ac_nil
theorem e0_Mm_readsSum : decode prog_10_method_66_code 0 = .ok (.aload_n 0, 1) ∧ decode prog_10_method_66_code 1 = .ok (.invokevirtual 292, 3) ∧ decode prog_10_method_66_code 4 = .ok (.aload_n 0, 1) ∧ decode prog_10_method_66_code 5 = .ok (.bipush 43, 2) ∧ decode prog_10_method_66_code 7 = .ok (.invokevirtual 211, 3) ∧ decode prog_10_method_66_code 10 = .ok (.ifCond .ne 12, 3) ∧ decode prog_10_method_66_code 13 = .ok (.aload_n 0, 1) ∧ decode prog_10_method_66_code 14 = .ok (.bipush 45, 2) ∧ decode prog_10_method_66_code 16 = .ok (.invokevirtual 211, 3) ∧ decode prog_10_method_66_code 19 = .ok (.ifCond .eq 35, 3) ∧ decode prog_10_method_66_code 22 = .ok (.aload_n 0, 1) ∧ decode prog_10_method_66_code 23 = .ok (.bipush 43, 2) := by decide +kernel
theorem e1_Mm_readsSum : decode prog_10_method_66_code 25 = .ok (.invokevirtual 211, 3) ∧ decode prog_10_method_66_code 28 = .ok (.ifCond .eq 7, 3) ∧ decode prog_10_method_66_code 31 = .ok (.iconst 0, 1) ∧ decode prog_10_method_66_code 32 = .ok (.goto 4, 3) ∧ decode prog_10_method_66_code 35 = .ok (.iconst 1, 1) ∧ decode prog_10_method_66_code 36 = .ok (.istore_n 1, 1) ∧ decode prog_10_method_66_code 37 = .ok (.aload_n 0, 1) ∧ decode prog_10_method_66_code 38 = .ok (.invokevirtual 195, 3) ∧ decode prog_10_method_66_code 41 = .ok (.aload_n 0, 1) ∧ decode prog_10_method_66_code 42 = .ok (.invokevirtual 292, 3) ∧ decode prog_10_method_66_code 45 = .ok (.aload_n 0, 1) ∧ decode prog_10_method_66_code 46 = .ok (.iload_n 1, 1) := by decide +kernel
theorem e2_Mm_readsSum : decode prog_10_method_66_code 47 = .ok (.iconst 0, 1) ∧ decode prog_10_method_66_code 48 = .ok (.invokevirtual 286, 3) ∧ decode prog_10_method_66_code 51 = .ok (.goto (-47), 3) ∧ decode prog_10_method_66_code 54 = .ok (.return_, 1) := by decide +kernel
def T_Mm_readsSum : TT := [(0, o_ald 0 1), (1, o_callV M_Mm_readsProduct 8 1 4), (4, o_ald 0 5), (5, o_push (.int (iI (43))) 7), (7, o_callV M_Mm_isSign 8 2 10), (10, o_if_ne 22 13), (13, o_ald 0 14), (14, o_push (.int (iI (45))) 16), (16, o_callV M_Mm_isSign 8 2 19), (19, o_if_eq 54 22), (22, o_ald 0 23), (23, o_push (.int (iI (43))) 25), (25, o_callV M_Mm_isSign 8 2 28), (28, o_if_eq 35 31), (31, o_push (.int (iI (0))) 32), (32, o_goto 36), (35, o_push (.int (iI (1))) 36), (36, o_ist 1 37), (37, o_ald 0 38), (38, o_callV M_Mm_scans 8 1 41), (41, o_ald 0 42), (42, o_callV M_Mm_readsProduct 8 1 45), (45, o_ald 0 46), (46, o_ild 1 47), (47, o_push (.int (iI (0))) 48), (48, o_callV M_Mm_lays 8 3 51), (51, o_goto 4), (54, o_vret)]
theorem k_Mm_readsSum : ∀ x ∈ T_Mm_readsSum, SO M_Mm_readsSum x.1 x.2 := by
  obtain ⟨h0, h1, h4, h5, h7, h10, h13, h14, h16, h19, h22, h23⟩ := e0_Mm_readsSum
  obtain ⟨h25, h28, h31, h32, h35, h36, h37, h38, h41, h42, h45, h46⟩ := e1_Mm_readsSum
  obtain ⟨h47, h48, h51, h54⟩ := e2_Mm_readsSum
  refine ac (s_aldn (M := M_Mm_readsSum) (pc := 0) (k := 0) h0) ?_
  refine ac (s_callV (M := M_Mm_readsSum) (pc := 1) (tz_Mm rfl) h1 q_Mm_readsProduct wd1944 wd1946 wd57 rfl (T := TX8) (N := 29) rfl) ?_
  refine ac (s_aldn (M := M_Mm_readsSum) (pc := 4) (k := 0) h4) ?_
  refine ac (s_bipush (M := M_Mm_readsSum) (pc := 5) h5 (by decide)) ?_
  refine ac (s_callV (M := M_Mm_readsSum) (pc := 7) (tz_Mm rfl) h7 q_Mm_isSign wd1882 wd1884 wd45 rfl (T := TX8) (N := 29) rfl) ?_
  refine ac (s_if_ne (M := M_Mm_readsSum) (pc := 10) h10 (by decide)) ?_
  refine ac (s_aldn (M := M_Mm_readsSum) (pc := 13) (k := 0) h13) ?_
  refine ac (s_bipush (M := M_Mm_readsSum) (pc := 14) h14 (by decide)) ?_
  refine ac (s_callV (M := M_Mm_readsSum) (pc := 16) (tz_Mm rfl) h16 q_Mm_isSign wd1882 wd1884 wd45 rfl (T := TX8) (N := 29) rfl) ?_
  refine ac (s_if_eq (M := M_Mm_readsSum) (pc := 19) h19 (by decide)) ?_
  refine ac (s_aldn (M := M_Mm_readsSum) (pc := 22) (k := 0) h22) ?_
  refine ac (s_bipush (M := M_Mm_readsSum) (pc := 23) h23 (by decide)) ?_
  refine ac (s_callV (M := M_Mm_readsSum) (pc := 25) (tz_Mm rfl) h25 q_Mm_isSign wd1882 wd1884 wd45 rfl (T := TX8) (N := 29) rfl) ?_
  refine ac (s_if_eq (M := M_Mm_readsSum) (pc := 28) h28 (by decide)) ?_
  refine ac (s_iconst (M := M_Mm_readsSum) (pc := 31) h31 rfl) ?_
  refine ac (s_goto (M := M_Mm_readsSum) (pc := 32) h32 (by decide)) ?_
  refine ac (s_iconst (M := M_Mm_readsSum) (pc := 35) h35 rfl) ?_
  refine ac (s_istn (M := M_Mm_readsSum) (pc := 36) (k := 1) h36 (by decide)) ?_
  refine ac (s_aldn (M := M_Mm_readsSum) (pc := 37) (k := 0) h37) ?_
  refine ac (s_callV (M := M_Mm_readsSum) (pc := 38) (tz_Mm rfl) h38 q_Mm_scans wd1811 wd1813 wd31 rfl (T := TX8) (N := 29) rfl) ?_
  refine ac (s_aldn (M := M_Mm_readsSum) (pc := 41) (k := 0) h41) ?_
  refine ac (s_callV (M := M_Mm_readsSum) (pc := 42) (tz_Mm rfl) h42 q_Mm_readsProduct wd1944 wd1946 wd57 rfl (T := TX8) (N := 29) rfl) ?_
  refine ac (s_aldn (M := M_Mm_readsSum) (pc := 45) (k := 0) h45) ?_
  refine ac (s_ildn (M := M_Mm_readsSum) (pc := 46) (k := 1) h46) ?_
  refine ac (s_iconst (M := M_Mm_readsSum) (pc := 47) h47 rfl) ?_
  refine ac (s_callV (M := M_Mm_readsSum) (pc := 48) (tz_Mm rfl) h48 q_Mm_lays wd1956 wd1958 wd60 rfl (T := TX8) (N := 29) rfl) ?_
  refine ac (s_goto (M := M_Mm_readsSum) (pc := 51) h51 (by decide)) ?_
  refine ac (s_vret (M := M_Mm_readsSum) (pc := 54) h54 rfl) ?_
  exact ac_nil
theorem e0_Mm_readsProduct : decode prog_10_method_65_code 0 = .ok (.aload_n 0, 1) ∧ decode prog_10_method_65_code 1 = .ok (.invokevirtual 283, 3) ∧ decode prog_10_method_65_code 4 = .ok (.aload_n 0, 1) ∧ decode prog_10_method_65_code 5 = .ok (.bipush 42, 2) ∧ decode prog_10_method_65_code 7 = .ok (.invokevirtual 211, 3) ∧ decode prog_10_method_65_code 10 = .ok (.ifCond .ne 21, 3) ∧ decode prog_10_method_65_code 13 = .ok (.aload_n 0, 1) ∧ decode prog_10_method_65_code 14 = .ok (.bipush 47, 2) ∧ decode prog_10_method_65_code 16 = .ok (.invokevirtual 211, 3) ∧ decode prog_10_method_65_code 19 = .ok (.ifCond .ne 12, 3) ∧ decode prog_10_method_65_code 22 = .ok (.aload_n 0, 1) ∧ decode prog_10_method_65_code 23 = .ok (.bipush 37, 2) := by decide +kernel
theorem e1_Mm_readsProduct : decode prog_10_method_65_code 25 = .ok (.invokevirtual 211, 3) ∧ decode prog_10_method_65_code 28 = .ok (.ifCond .eq 48, 3) ∧ decode prog_10_method_65_code 31 = .ok (.aload_n 0, 1) ∧ decode prog_10_method_65_code 32 = .ok (.bipush 42, 2) ∧ decode prog_10_method_65_code 34 = .ok (.invokevirtual 211, 3) ∧ decode prog_10_method_65_code 37 = .ok (.ifCond .eq 7, 3) ∧ decode prog_10_method_65_code 40 = .ok (.iconst 2, 1) ∧ decode prog_10_method_65_code 41 = .ok (.goto 17, 3) ∧ decode prog_10_method_65_code 44 = .ok (.aload_n 0, 1) ∧ decode prog_10_method_65_code 45 = .ok (.bipush 47, 2) ∧ decode prog_10_method_65_code 47 = .ok (.invokevirtual 211, 3) ∧ decode prog_10_method_65_code 50 = .ok (.ifCond .eq 7, 3) := by decide +kernel
theorem e2_Mm_readsProduct : decode prog_10_method_65_code 53 = .ok (.iconst 3, 1) ∧ decode prog_10_method_65_code 54 = .ok (.goto 4, 3) ∧ decode prog_10_method_65_code 57 = .ok (.iconst 4, 1) ∧ decode prog_10_method_65_code 58 = .ok (.istore_n 1, 1) ∧ decode prog_10_method_65_code 59 = .ok (.aload_n 0, 1) ∧ decode prog_10_method_65_code 60 = .ok (.invokevirtual 195, 3) ∧ decode prog_10_method_65_code 63 = .ok (.aload_n 0, 1) ∧ decode prog_10_method_65_code 64 = .ok (.invokevirtual 283, 3) ∧ decode prog_10_method_65_code 67 = .ok (.aload_n 0, 1) ∧ decode prog_10_method_65_code 68 = .ok (.iload_n 1, 1) ∧ decode prog_10_method_65_code 69 = .ok (.iconst 0, 1) ∧ decode prog_10_method_65_code 70 = .ok (.invokevirtual 286, 3) := by decide +kernel
theorem e3_Mm_readsProduct : decode prog_10_method_65_code 73 = .ok (.goto (-69), 3) ∧ decode prog_10_method_65_code 76 = .ok (.return_, 1) := by decide +kernel
def T_Mm_readsProduct : TT := [(0, o_ald 0 1), (1, o_callV M_Mm_readsFactor 8 1 4), (4, o_ald 0 5), (5, o_push (.int (iI (42))) 7), (7, o_callV M_Mm_isSign 8 2 10), (10, o_if_ne 31 13), (13, o_ald 0 14), (14, o_push (.int (iI (47))) 16), (16, o_callV M_Mm_isSign 8 2 19), (19, o_if_ne 31 22), (22, o_ald 0 23), (23, o_push (.int (iI (37))) 25), (25, o_callV M_Mm_isSign 8 2 28), (28, o_if_eq 76 31), (31, o_ald 0 32), (32, o_push (.int (iI (42))) 34), (34, o_callV M_Mm_isSign 8 2 37), (37, o_if_eq 44 40), (40, o_push (.int (iI (2))) 41), (41, o_goto 58), (44, o_ald 0 45), (45, o_push (.int (iI (47))) 47), (47, o_callV M_Mm_isSign 8 2 50), (50, o_if_eq 57 53), (53, o_push (.int (iI (3))) 54), (54, o_goto 58), (57, o_push (.int (iI (4))) 58), (58, o_ist 1 59), (59, o_ald 0 60), (60, o_callV M_Mm_scans 8 1 63), (63, o_ald 0 64), (64, o_callV M_Mm_readsFactor 8 1 67), (67, o_ald 0 68), (68, o_ild 1 69), (69, o_push (.int (iI (0))) 70), (70, o_callV M_Mm_lays 8 3 73), (73, o_goto 4), (76, o_vret)]
theorem k_Mm_readsProduct : ∀ x ∈ T_Mm_readsProduct, SO M_Mm_readsProduct x.1 x.2 := by
  obtain ⟨h0, h1, h4, h5, h7, h10, h13, h14, h16, h19, h22, h23⟩ := e0_Mm_readsProduct
  obtain ⟨h25, h28, h31, h32, h34, h37, h40, h41, h44, h45, h47, h50⟩ := e1_Mm_readsProduct
  obtain ⟨h53, h54, h57, h58, h59, h60, h63, h64, h67, h68, h69, h70⟩ := e2_Mm_readsProduct
  obtain ⟨h73, h76⟩ := e3_Mm_readsProduct
  refine ac (s_aldn (M := M_Mm_readsProduct) (pc := 0) (k := 0) h0) ?_
  refine ac (s_callV (M := M_Mm_readsProduct) (pc := 1) (tz_Mm rfl) h1 q_Mm_readsFactor wd1948 wd1950 wd58 rfl (T := TX8) (N := 29) rfl) ?_
  refine ac (s_aldn (M := M_Mm_readsProduct) (pc := 4) (k := 0) h4) ?_
  refine ac (s_bipush (M := M_Mm_readsProduct) (pc := 5) h5 (by decide)) ?_
  refine ac (s_callV (M := M_Mm_readsProduct) (pc := 7) (tz_Mm rfl) h7 q_Mm_isSign wd1882 wd1884 wd45 rfl (T := TX8) (N := 29) rfl) ?_
  refine ac (s_if_ne (M := M_Mm_readsProduct) (pc := 10) h10 (by decide)) ?_
  refine ac (s_aldn (M := M_Mm_readsProduct) (pc := 13) (k := 0) h13) ?_
  refine ac (s_bipush (M := M_Mm_readsProduct) (pc := 14) h14 (by decide)) ?_
  refine ac (s_callV (M := M_Mm_readsProduct) (pc := 16) (tz_Mm rfl) h16 q_Mm_isSign wd1882 wd1884 wd45 rfl (T := TX8) (N := 29) rfl) ?_
  refine ac (s_if_ne (M := M_Mm_readsProduct) (pc := 19) h19 (by decide)) ?_
  refine ac (s_aldn (M := M_Mm_readsProduct) (pc := 22) (k := 0) h22) ?_
  refine ac (s_bipush (M := M_Mm_readsProduct) (pc := 23) h23 (by decide)) ?_
  refine ac (s_callV (M := M_Mm_readsProduct) (pc := 25) (tz_Mm rfl) h25 q_Mm_isSign wd1882 wd1884 wd45 rfl (T := TX8) (N := 29) rfl) ?_
  refine ac (s_if_eq (M := M_Mm_readsProduct) (pc := 28) h28 (by decide)) ?_
  refine ac (s_aldn (M := M_Mm_readsProduct) (pc := 31) (k := 0) h31) ?_
  refine ac (s_bipush (M := M_Mm_readsProduct) (pc := 32) h32 (by decide)) ?_
  refine ac (s_callV (M := M_Mm_readsProduct) (pc := 34) (tz_Mm rfl) h34 q_Mm_isSign wd1882 wd1884 wd45 rfl (T := TX8) (N := 29) rfl) ?_
  refine ac (s_if_eq (M := M_Mm_readsProduct) (pc := 37) h37 (by decide)) ?_
  refine ac (s_iconst (M := M_Mm_readsProduct) (pc := 40) h40 rfl) ?_
  refine ac (s_goto (M := M_Mm_readsProduct) (pc := 41) h41 (by decide)) ?_
  refine ac (s_aldn (M := M_Mm_readsProduct) (pc := 44) (k := 0) h44) ?_
  refine ac (s_bipush (M := M_Mm_readsProduct) (pc := 45) h45 (by decide)) ?_
  refine ac (s_callV (M := M_Mm_readsProduct) (pc := 47) (tz_Mm rfl) h47 q_Mm_isSign wd1882 wd1884 wd45 rfl (T := TX8) (N := 29) rfl) ?_
  refine ac (s_if_eq (M := M_Mm_readsProduct) (pc := 50) h50 (by decide)) ?_
  refine ac (s_iconst (M := M_Mm_readsProduct) (pc := 53) h53 rfl) ?_
  refine ac (s_goto (M := M_Mm_readsProduct) (pc := 54) h54 (by decide)) ?_
  refine ac (s_iconst (M := M_Mm_readsProduct) (pc := 57) h57 rfl) ?_
  refine ac (s_istn (M := M_Mm_readsProduct) (pc := 58) (k := 1) h58 (by decide)) ?_
  refine ac (s_aldn (M := M_Mm_readsProduct) (pc := 59) (k := 0) h59) ?_
  refine ac (s_callV (M := M_Mm_readsProduct) (pc := 60) (tz_Mm rfl) h60 q_Mm_scans wd1811 wd1813 wd31 rfl (T := TX8) (N := 29) rfl) ?_
  refine ac (s_aldn (M := M_Mm_readsProduct) (pc := 63) (k := 0) h63) ?_
  refine ac (s_callV (M := M_Mm_readsProduct) (pc := 64) (tz_Mm rfl) h64 q_Mm_readsFactor wd1948 wd1950 wd58 rfl (T := TX8) (N := 29) rfl) ?_
  refine ac (s_aldn (M := M_Mm_readsProduct) (pc := 67) (k := 0) h67) ?_
  refine ac (s_ildn (M := M_Mm_readsProduct) (pc := 68) (k := 1) h68) ?_
  refine ac (s_iconst (M := M_Mm_readsProduct) (pc := 69) h69 rfl) ?_
  refine ac (s_callV (M := M_Mm_readsProduct) (pc := 70) (tz_Mm rfl) h70 q_Mm_lays wd1956 wd1958 wd60 rfl (T := TX8) (N := 29) rfl) ?_
  refine ac (s_goto (M := M_Mm_readsProduct) (pc := 73) h73 (by decide)) ?_
  refine ac (s_vret (M := M_Mm_readsProduct) (pc := 76) h76 rfl) ?_
  exact ac_nil
theorem e0_Mm_readsFactor : decode prog_10_method_64_code 0 = .ok (.aload_n 0, 1) ∧ decode prog_10_method_64_code 1 = .ok (.bipush 45, 2) ∧ decode prog_10_method_64_code 3 = .ok (.invokevirtual 211, 3) ∧ decode prog_10_method_64_code 6 = .ok (.ifCond .eq 38, 3) ∧ decode prog_10_method_64_code 9 = .ok (.aload_n 0, 1) ∧ decode prog_10_method_64_code 10 = .ok (.invokevirtual 280, 3) ∧ decode prog_10_method_64_code 13 = .ok (.aload_n 0, 1) ∧ decode prog_10_method_64_code 14 = .ok (.invokevirtual 198, 3) ∧ decode prog_10_method_64_code 17 = .ok (.ifCond .eq 7, 3) ∧ decode prog_10_method_64_code 20 = .ok (.aload_n 0, 1) ∧ decode prog_10_method_64_code 21 = .ok (.invokevirtual 283, 3) ∧ decode prog_10_method_64_code 24 = .ok (.aload_n 0, 1) := by decide +kernel
theorem e1_Mm_readsFactor : decode prog_10_method_64_code 25 = .ok (.bipush 7, 2) ∧ decode prog_10_method_64_code 27 = .ok (.iconst 0, 1) ∧ decode prog_10_method_64_code 28 = .ok (.invokevirtual 286, 3) ∧ decode prog_10_method_64_code 31 = .ok (.aload_n 0, 1) ∧ decode prog_10_method_64_code 32 = .ok (.aload_n 0, 1) ∧ decode prog_10_method_64_code 33 = .ok (.getfield 277, 3) ∧ decode prog_10_method_64_code 36 = .ok (.iconst 1, 1) ∧ decode prog_10_method_64_code 37 = .ok (.isub, 1) ∧ decode prog_10_method_64_code 38 = .ok (.putfield 277, 3) ∧ decode prog_10_method_64_code 41 = .ok (.goto 84, 3) ∧ decode prog_10_method_64_code 44 = .ok (.aload_n 0, 1) ∧ decode prog_10_method_64_code 45 = .ok (.bipush 40, 2) := by decide +kernel
theorem e2_Mm_readsFactor : decode prog_10_method_64_code 47 = .ok (.invokevirtual 211, 3) ∧ decode prog_10_method_64_code 50 = .ok (.ifCond .eq 37, 3) ∧ decode prog_10_method_64_code 53 = .ok (.aload_n 0, 1) ∧ decode prog_10_method_64_code 54 = .ok (.invokevirtual 280, 3) ∧ decode prog_10_method_64_code 57 = .ok (.aload_n 0, 1) ∧ decode prog_10_method_64_code 58 = .ok (.invokevirtual 198, 3) ∧ decode prog_10_method_64_code 61 = .ok (.ifCond .eq 7, 3) ∧ decode prog_10_method_64_code 64 = .ok (.aload_n 0, 1) ∧ decode prog_10_method_64_code 65 = .ok (.invokevirtual 289, 3) ∧ decode prog_10_method_64_code 68 = .ok (.aload_n 0, 1) ∧ decode prog_10_method_64_code 69 = .ok (.bipush 41, 2) ∧ decode prog_10_method_64_code 71 = .ok (.invokevirtual 243, 3) := by decide +kernel
theorem e3_Mm_readsFactor : decode prog_10_method_64_code 74 = .ok (.aload_n 0, 1) ∧ decode prog_10_method_64_code 75 = .ok (.aload_n 0, 1) ∧ decode prog_10_method_64_code 76 = .ok (.getfield 277, 3) ∧ decode prog_10_method_64_code 79 = .ok (.iconst 1, 1) ∧ decode prog_10_method_64_code 80 = .ok (.isub, 1) ∧ decode prog_10_method_64_code 81 = .ok (.putfield 277, 3) ∧ decode prog_10_method_64_code 84 = .ok (.goto 41, 3) ∧ decode prog_10_method_64_code 87 = .ok (.aload_n 0, 1) ∧ decode prog_10_method_64_code 88 = .ok (.invokevirtual 222, 3) ∧ decode prog_10_method_64_code 91 = .ok (.ifCond .eq 20, 3) ∧ decode prog_10_method_64_code 94 = .ok (.aload_n 0, 1) ∧ decode prog_10_method_64_code 95 = .ok (.bipush 6, 2) := by decide +kernel
theorem e4_Mm_readsFactor : decode prog_10_method_64_code 97 = .ok (.aload_n 0, 1) ∧ decode prog_10_method_64_code 98 = .ok (.invokevirtual 225, 3) ∧ decode prog_10_method_64_code 101 = .ok (.invokevirtual 286, 3) ∧ decode prog_10_method_64_code 104 = .ok (.aload_n 0, 1) ∧ decode prog_10_method_64_code 105 = .ok (.invokevirtual 217, 3) ∧ decode prog_10_method_64_code 108 = .ok (.goto 17, 3) ∧ decode prog_10_method_64_code 111 = .ok (.aload_n 0, 1) ∧ decode prog_10_method_64_code 112 = .ok (.iconst 5, 1) ∧ decode prog_10_method_64_code 113 = .ok (.aload_n 0, 1) ∧ decode prog_10_method_64_code 114 = .ok (.lconst 0, 1) ∧ decode prog_10_method_64_code 115 = .ok (.aload_n 0, 1) ∧ decode prog_10_method_64_code 116 = .ok (.invokevirtual 101, 3) := by decide +kernel
theorem e5_Mm_readsFactor : decode prog_10_method_64_code 119 = .ok (.invokevirtual 239, 3) ∧ decode prog_10_method_64_code 122 = .ok (.invokevirtual 286, 3) ∧ decode prog_10_method_64_code 125 = .ok (.return_, 1) := by decide +kernel
def T_Mm_readsFactor : TT := [(0, o_ald 0 1), (1, o_push (.int (iI (45))) 3), (3, o_callV M_Mm_isSign 8 2 6), (6, o_if_eq 44 9), (9, o_ald 0 10), (10, o_callV M_Mm_opens 8 1 13), (13, o_ald 0 14), (14, o_callV M_Mm_isGood 8 1 17), (17, o_if_eq 24 20), (20, o_ald 0 21), (21, o_callV M_Mm_readsFactor 8 1 24), (24, o_ald 0 25), (25, o_push (.int (iI (7))) 27), (27, o_push (.int (iI (0))) 28), (28, o_callV M_Mm_lays 8 3 31), (31, o_ald 0 32), (32, o_ald 0 33), (33, o_get 8 22 36), (36, o_push (.int (iI (1))) 37), (37, o_isub 38), (38, o_puti 8 22 41), (41, o_goto 125), (44, o_ald 0 45), (45, o_push (.int (iI (40))) 47), (47, o_callV M_Mm_isSign 8 2 50), (50, o_if_eq 87 53), (53, o_ald 0 54), (54, o_callV M_Mm_opens 8 1 57), (57, o_ald 0 58), (58, o_callV M_Mm_isGood 8 1 61), (61, o_if_eq 68 64), (64, o_ald 0 65), (65, o_callV M_Mm_readsSum 8 1 68), (68, o_ald 0 69), (69, o_push (.int (iI (41))) 71), (71, o_callV M_Mm_sign 8 2 74), (74, o_ald 0 75), (75, o_ald 0 76), (76, o_get 8 22 79), (79, o_push (.int (iI (1))) 80), (80, o_isub 81), (81, o_puti 8 22 84), (84, o_goto 125), (87, o_ald 0 88), (88, o_callV M_Mm_isLetter 8 1 91), (91, o_if_eq 111 94), (94, o_ald 0 95), (95, o_push (.int (iI (6))) 97), (97, o_ald 0 98), (98, o_callV M_Mm_registerHere 8 1 101), (101, o_callV M_Mm_lays 8 3 104), (104, o_ald 0 105), (105, o_callV M_Mm_goesOn 8 1 108), (108, o_goto 125), (111, o_ald 0 112), (112, o_push (.int (iI (5))) 113), (113, o_ald 0 114), (114, o_push (.long (lI 0)) 115), (115, o_ald 0 116), (116, o_callV M_Mm_half 8 1 119), (119, o_callV M_Mm_number_JJ 8 3 122), (122, o_callV M_Mm_lays 8 3 125), (125, o_vret)]
theorem k_Mm_readsFactor : ∀ x ∈ T_Mm_readsFactor, SO M_Mm_readsFactor x.1 x.2 := by
  obtain ⟨h0, h1, h3, h6, h9, h10, h13, h14, h17, h20, h21, h24⟩ := e0_Mm_readsFactor
  obtain ⟨h25, h27, h28, h31, h32, h33, h36, h37, h38, h41, h44, h45⟩ := e1_Mm_readsFactor
  obtain ⟨h47, h50, h53, h54, h57, h58, h61, h64, h65, h68, h69, h71⟩ := e2_Mm_readsFactor
  obtain ⟨h74, h75, h76, h79, h80, h81, h84, h87, h88, h91, h94, h95⟩ := e3_Mm_readsFactor
  obtain ⟨h97, h98, h101, h104, h105, h108, h111, h112, h113, h114, h115, h116⟩ := e4_Mm_readsFactor
  obtain ⟨h119, h122, h125⟩ := e5_Mm_readsFactor
  refine ac (s_aldn (M := M_Mm_readsFactor) (pc := 0) (k := 0) h0) ?_
  refine ac (s_bipush (M := M_Mm_readsFactor) (pc := 1) h1 (by decide)) ?_
  refine ac (s_callV (M := M_Mm_readsFactor) (pc := 3) (tz_Mm rfl) h3 q_Mm_isSign wd1882 wd1884 wd45 rfl (T := TX8) (N := 29) rfl) ?_
  refine ac (s_if_eq (M := M_Mm_readsFactor) (pc := 6) h6 (by decide)) ?_
  refine ac (s_aldn (M := M_Mm_readsFactor) (pc := 9) (k := 0) h9) ?_
  refine ac (s_callV (M := M_Mm_readsFactor) (pc := 10) (tz_Mm rfl) h10 q_Mm_opens wd1952 wd1954 wd59 rfl (T := TX8) (N := 29) rfl) ?_
  refine ac (s_aldn (M := M_Mm_readsFactor) (pc := 13) (k := 0) h13) ?_
  refine ac (s_callV (M := M_Mm_readsFactor) (pc := 14) (tz_Mm rfl) h14 q_Mm_isGood wd1835 wd1837 wd35 rfl (T := TX8) (N := 29) rfl) ?_
  refine ac (s_if_eq (M := M_Mm_readsFactor) (pc := 17) h17 (by decide)) ?_
  refine ac (s_aldn (M := M_Mm_readsFactor) (pc := 20) (k := 0) h20) ?_
  refine ac (s_callV (M := M_Mm_readsFactor) (pc := 21) (tz_Mm rfl) h21 q_Mm_readsFactor wd1948 wd1950 wd58 rfl (T := TX8) (N := 29) rfl) ?_
  refine ac (s_aldn (M := M_Mm_readsFactor) (pc := 24) (k := 0) h24) ?_
  refine ac (s_bipush (M := M_Mm_readsFactor) (pc := 25) h25 (by decide)) ?_
  refine ac (s_iconst (M := M_Mm_readsFactor) (pc := 27) h27 rfl) ?_
  refine ac (s_callV (M := M_Mm_readsFactor) (pc := 28) (tz_Mm rfl) h28 q_Mm_lays wd1956 wd1958 wd60 rfl (T := TX8) (N := 29) rfl) ?_
  refine ac (s_aldn (M := M_Mm_readsFactor) (pc := 31) (k := 0) h31) ?_
  refine ac (s_aldn (M := M_Mm_readsFactor) (pc := 32) (k := 0) h32) ?_
  refine ac (s_get (M := M_Mm_readsFactor) (pc := 33) (T := TX8) (N := 29) h33 rfl in_X8 (by decide) wd1711) ?_
  refine ac (s_iconst (M := M_Mm_readsFactor) (pc := 36) h36 rfl) ?_
  refine ac (s_isub (M := M_Mm_readsFactor) (pc := 37) h37) ?_
  refine ac (s_puti (M := M_Mm_readsFactor) (pc := 38) (T := TX8) (N := 29) (ty0 := tyX8) h38 ⟨rfl, in_X8, by decide, wd1711, tyX8_ok, nmX8, (Or.inl rfl)⟩ rfl) ?_
  refine ac (s_goto (M := M_Mm_readsFactor) (pc := 41) h41 (by decide)) ?_
  refine ac (s_aldn (M := M_Mm_readsFactor) (pc := 44) (k := 0) h44) ?_
  refine ac (s_bipush (M := M_Mm_readsFactor) (pc := 45) h45 (by decide)) ?_
  refine ac (s_callV (M := M_Mm_readsFactor) (pc := 47) (tz_Mm rfl) h47 q_Mm_isSign wd1882 wd1884 wd45 rfl (T := TX8) (N := 29) rfl) ?_
  refine ac (s_if_eq (M := M_Mm_readsFactor) (pc := 50) h50 (by decide)) ?_
  refine ac (s_aldn (M := M_Mm_readsFactor) (pc := 53) (k := 0) h53) ?_
  refine ac (s_callV (M := M_Mm_readsFactor) (pc := 54) (tz_Mm rfl) h54 q_Mm_opens wd1952 wd1954 wd59 rfl (T := TX8) (N := 29) rfl) ?_
  refine ac (s_aldn (M := M_Mm_readsFactor) (pc := 57) (k := 0) h57) ?_
  refine ac (s_callV (M := M_Mm_readsFactor) (pc := 58) (tz_Mm rfl) h58 q_Mm_isGood wd1835 wd1837 wd35 rfl (T := TX8) (N := 29) rfl) ?_
  refine ac (s_if_eq (M := M_Mm_readsFactor) (pc := 61) h61 (by decide)) ?_
  refine ac (s_aldn (M := M_Mm_readsFactor) (pc := 64) (k := 0) h64) ?_
  refine ac (s_callV (M := M_Mm_readsFactor) (pc := 65) (tz_Mm rfl) h65 q_Mm_readsSum wd1940 wd1942 wd56 rfl (T := TX8) (N := 29) rfl) ?_
  refine ac (s_aldn (M := M_Mm_readsFactor) (pc := 68) (k := 0) h68) ?_
  refine ac (s_bipush (M := M_Mm_readsFactor) (pc := 69) h69 (by decide)) ?_
  refine ac (s_callV (M := M_Mm_readsFactor) (pc := 71) (tz_Mm rfl) h71 q_Mm_sign wd1878 wd1880 wd44 rfl (T := TX8) (N := 29) rfl) ?_
  refine ac (s_aldn (M := M_Mm_readsFactor) (pc := 74) (k := 0) h74) ?_
  refine ac (s_aldn (M := M_Mm_readsFactor) (pc := 75) (k := 0) h75) ?_
  refine ac (s_get (M := M_Mm_readsFactor) (pc := 76) (T := TX8) (N := 29) h76 rfl in_X8 (by decide) wd1711) ?_
  refine ac (s_iconst (M := M_Mm_readsFactor) (pc := 79) h79 rfl) ?_
  refine ac (s_isub (M := M_Mm_readsFactor) (pc := 80) h80) ?_
  refine ac (s_puti (M := M_Mm_readsFactor) (pc := 81) (T := TX8) (N := 29) (ty0 := tyX8) h81 ⟨rfl, in_X8, by decide, wd1711, tyX8_ok, nmX8, (Or.inl rfl)⟩ rfl) ?_
  refine ac (s_goto (M := M_Mm_readsFactor) (pc := 84) h84 (by decide)) ?_
  refine ac (s_aldn (M := M_Mm_readsFactor) (pc := 87) (k := 0) h87) ?_
  refine ac (s_callV (M := M_Mm_readsFactor) (pc := 88) (tz_Mm rfl) h88 q_Mm_isLetter wd1901 wd1903 wd49 rfl (T := TX8) (N := 29) rfl) ?_
  refine ac (s_if_eq (M := M_Mm_readsFactor) (pc := 91) h91 (by decide)) ?_
  refine ac (s_aldn (M := M_Mm_readsFactor) (pc := 94) (k := 0) h94) ?_
  refine ac (s_bipush (M := M_Mm_readsFactor) (pc := 95) h95 (by decide)) ?_
  refine ac (s_aldn (M := M_Mm_readsFactor) (pc := 97) (k := 0) h97) ?_
  refine ac (s_callV (M := M_Mm_readsFactor) (pc := 98) (tz_Mm rfl) h98 q_Mm_registerHere wd1897 wd1899 wd48 rfl (T := TX8) (N := 29) rfl) ?_
  refine ac (s_callV (M := M_Mm_readsFactor) (pc := 101) (tz_Mm rfl) h101 q_Mm_lays wd1956 wd1958 wd60 rfl (T := TX8) (N := 29) rfl) ?_
  refine ac (s_aldn (M := M_Mm_readsFactor) (pc := 104) (k := 0) h104) ?_
  refine ac (s_callV (M := M_Mm_readsFactor) (pc := 105) (tz_Mm rfl) h105 q_Mm_goesOn wd1845 wd1847 wd37 rfl (T := TX8) (N := 29) rfl) ?_
  refine ac (s_goto (M := M_Mm_readsFactor) (pc := 108) h108 (by decide)) ?_
  refine ac (s_aldn (M := M_Mm_readsFactor) (pc := 111) (k := 0) h111) ?_
  refine ac (s_iconst (M := M_Mm_readsFactor) (pc := 112) h112 rfl) ?_
  refine ac (s_aldn (M := M_Mm_readsFactor) (pc := 113) (k := 0) h113) ?_
  refine ac (s_lconst (M := M_Mm_readsFactor) (pc := 114) h114 (by decide)) ?_
  refine ac (s_aldn (M := M_Mm_readsFactor) (pc := 115) (k := 0) h115) ?_
  refine ac (s_callV (M := M_Mm_readsFactor) (pc := 116) (tz_Mm rfl) h116 q_Mm_half wd1906 wd1908 wd50 rfl (T := TX8) (N := 29) rfl) ?_
  refine ac (s_callV (M := M_Mm_readsFactor) (pc := 119) (tz_Mm rfl) h119 q_Mm_number_JJ wd1887 wd1889 wd46 rfl (T := TX8) (N := 29) rfl) ?_
  refine ac (s_callV (M := M_Mm_readsFactor) (pc := 122) (tz_Mm rfl) h122 q_Mm_lays wd1956 wd1958 wd60 rfl (T := TX8) (N := 29) rfl) ?_
  refine ac (s_vret (M := M_Mm_readsFactor) (pc := 125) h125 rfl) ?_
  exact ac_nil
theorem e0_Mm_opens : decode prog_10_method_63_code 0 = .ok (.aload_n 0, 1) ∧ decode prog_10_method_63_code 1 = .ok (.getfield 277, 3) ∧ decode prog_10_method_63_code 4 = .ok (.bipush 6, 2) ∧ decode prog_10_method_63_code 6 = .ok (.if_icmp .ne 8, 3) ∧ decode prog_10_method_63_code 9 = .ok (.aload_n 0, 1) ∧ decode prog_10_method_63_code 10 = .ok (.iconst 5, 1) ∧ decode prog_10_method_63_code 11 = .ok (.invokevirtual 214, 3) ∧ decode prog_10_method_63_code 14 = .ok (.aload_n 0, 1) ∧ decode prog_10_method_63_code 15 = .ok (.aload_n 0, 1) ∧ decode prog_10_method_63_code 16 = .ok (.getfield 277, 3) ∧ decode prog_10_method_63_code 19 = .ok (.iconst 1, 1) ∧ decode prog_10_method_63_code 20 = .ok (.iadd, 1) := by decide +kernel
theorem e1_Mm_opens : decode prog_10_method_63_code 21 = .ok (.putfield 277, 3) ∧ decode prog_10_method_63_code 24 = .ok (.aload_n 0, 1) ∧ decode prog_10_method_63_code 25 = .ok (.invokevirtual 217, 3) ∧ decode prog_10_method_63_code 28 = .ok (.return_, 1) := by decide +kernel
def T_Mm_opens : TT := [(0, o_ald 0 1), (1, o_get 8 22 4), (4, o_push (.int (iI (6))) 6), (6, o_icmp_ne 14 9), (9, o_ald 0 10), (10, o_push (.int (iI (5))) 11), (11, o_callV M_Mm_errs 8 2 14), (14, o_ald 0 15), (15, o_ald 0 16), (16, o_get 8 22 19), (19, o_push (.int (iI (1))) 20), (20, o_iadd 21), (21, o_puti 8 22 24), (24, o_ald 0 25), (25, o_callV M_Mm_goesOn 8 1 28), (28, o_vret)]
theorem k_Mm_opens : ∀ x ∈ T_Mm_opens, SO M_Mm_opens x.1 x.2 := by
  obtain ⟨h0, h1, h4, h6, h9, h10, h11, h14, h15, h16, h19, h20⟩ := e0_Mm_opens
  obtain ⟨h21, h24, h25, h28⟩ := e1_Mm_opens
  refine ac (s_aldn (M := M_Mm_opens) (pc := 0) (k := 0) h0) ?_
  refine ac (s_get (M := M_Mm_opens) (pc := 1) (T := TX8) (N := 29) h1 rfl in_X8 (by decide) wd1711) ?_
  refine ac (s_bipush (M := M_Mm_opens) (pc := 4) h4 (by decide)) ?_
  refine ac (s_icmp_ne (M := M_Mm_opens) (pc := 6) h6 (by decide)) ?_
  refine ac (s_aldn (M := M_Mm_opens) (pc := 9) (k := 0) h9) ?_
  refine ac (s_iconst (M := M_Mm_opens) (pc := 10) h10 rfl) ?_
  refine ac (s_callV (M := M_Mm_opens) (pc := 11) (tz_Mm rfl) h11 q_Mm_errs wd1841 wd1843 wd36 rfl (T := TX8) (N := 29) rfl) ?_
  refine ac (s_aldn (M := M_Mm_opens) (pc := 14) (k := 0) h14) ?_
  refine ac (s_aldn (M := M_Mm_opens) (pc := 15) (k := 0) h15) ?_
  refine ac (s_get (M := M_Mm_opens) (pc := 16) (T := TX8) (N := 29) h16 rfl in_X8 (by decide) wd1711) ?_
  refine ac (s_iconst (M := M_Mm_opens) (pc := 19) h19 rfl) ?_
  refine ac (s_iadd (M := M_Mm_opens) (pc := 20) h20) ?_
  refine ac (s_puti (M := M_Mm_opens) (pc := 21) (T := TX8) (N := 29) (ty0 := tyX8) h21 ⟨rfl, in_X8, by decide, wd1711, tyX8_ok, nmX8, (Or.inl rfl)⟩ rfl) ?_
  refine ac (s_aldn (M := M_Mm_opens) (pc := 24) (k := 0) h24) ?_
  refine ac (s_callV (M := M_Mm_opens) (pc := 25) (tz_Mm rfl) h25 q_Mm_goesOn wd1845 wd1847 wd37 rfl (T := TX8) (N := 29) rfl) ?_
  refine ac (s_vret (M := M_Mm_opens) (pc := 28) h28 rfl) ?_
  exact ac_nil
theorem e0_Mm_lays : decode prog_10_method_62_code 0 = .ok (.aload_n 0, 1) ∧ decode prog_10_method_62_code 1 = .ok (.invokevirtual 198, 3) ∧ decode prog_10_method_62_code 4 = .ok (.ifCond .ne 4, 3) ∧ decode prog_10_method_62_code 7 = .ok (.return_, 1) ∧ decode prog_10_method_62_code 8 = .ok (.aload_n 0, 1) ∧ decode prog_10_method_62_code 9 = .ok (.getfield 39, 3) ∧ decode prog_10_method_62_code 12 = .ok (.aload_n 0, 1) ∧ decode prog_10_method_62_code 13 = .ok (.getfield 274, 3) ∧ decode prog_10_method_62_code 16 = .ok (.iload_n 1, 1) ∧ decode prog_10_method_62_code 17 = .ok (.iastore, 1) ∧ decode prog_10_method_62_code 18 = .ok (.aload_n 0, 1) ∧ decode prog_10_method_62_code 19 = .ok (.getfield 42, 3) := by decide +kernel
theorem e1_Mm_lays : decode prog_10_method_62_code 22 = .ok (.aload_n 0, 1) ∧ decode prog_10_method_62_code 23 = .ok (.getfield 274, 3) ∧ decode prog_10_method_62_code 26 = .ok (.iload_n 2, 1) ∧ decode prog_10_method_62_code 27 = .ok (.iastore, 1) ∧ decode prog_10_method_62_code 28 = .ok (.aload_n 0, 1) ∧ decode prog_10_method_62_code 29 = .ok (.aload_n 0, 1) ∧ decode prog_10_method_62_code 30 = .ok (.getfield 274, 3) ∧ decode prog_10_method_62_code 33 = .ok (.iconst 1, 1) ∧ decode prog_10_method_62_code 34 = .ok (.iadd, 1) ∧ decode prog_10_method_62_code 35 = .ok (.putfield 274, 3) ∧ decode prog_10_method_62_code 38 = .ok (.return_, 1) := by decide +kernel
def T_Mm_lays : TT := [(0, o_ald 0 1), (1, o_callV M_Mm_isGood 8 1 4), (4, o_if_ne 8 7), (7, o_vret), (8, o_ald 0 9), (9, o_get 8 19 12), (12, o_ald 0 13), (13, o_get 8 21 16), (16, o_ild 1 17), (17, o_iast 18), (18, o_ald 0 19), (19, o_get 8 20 22), (22, o_ald 0 23), (23, o_get 8 21 26), (26, o_ild 2 27), (27, o_iast 28), (28, o_ald 0 29), (29, o_ald 0 30), (30, o_get 8 21 33), (33, o_push (.int (iI (1))) 34), (34, o_iadd 35), (35, o_puti 8 21 38), (38, o_vret)]
theorem k_Mm_lays : ∀ x ∈ T_Mm_lays, SO M_Mm_lays x.1 x.2 := by
  obtain ⟨h0, h1, h4, h7, h8, h9, h12, h13, h16, h17, h18, h19⟩ := e0_Mm_lays
  obtain ⟨h22, h23, h26, h27, h28, h29, h30, h33, h34, h35, h38⟩ := e1_Mm_lays
  refine ac (s_aldn (M := M_Mm_lays) (pc := 0) (k := 0) h0) ?_
  refine ac (s_callV (M := M_Mm_lays) (pc := 1) (tz_Mm rfl) h1 q_Mm_isGood wd1835 wd1837 wd35 rfl (T := TX8) (N := 29) rfl) ?_
  refine ac (s_if_ne (M := M_Mm_lays) (pc := 4) h4 (by decide)) ?_
  refine ac (s_vret (M := M_Mm_lays) (pc := 7) h7 rfl) ?_
  refine ac (s_aldn (M := M_Mm_lays) (pc := 8) (k := 0) h8) ?_
  refine ac (s_get (M := M_Mm_lays) (pc := 9) (T := TX8) (N := 29) h9 rfl in_X8 (by decide) wd1708) ?_
  refine ac (s_aldn (M := M_Mm_lays) (pc := 12) (k := 0) h12) ?_
  refine ac (s_get (M := M_Mm_lays) (pc := 13) (T := TX8) (N := 29) h13 rfl in_X8 (by decide) wd1710) ?_
  refine ac (s_ildn (M := M_Mm_lays) (pc := 16) (k := 1) h16) ?_
  refine ac (s_iast (M := M_Mm_lays) (pc := 17) h17) ?_
  refine ac (s_aldn (M := M_Mm_lays) (pc := 18) (k := 0) h18) ?_
  refine ac (s_get (M := M_Mm_lays) (pc := 19) (T := TX8) (N := 29) h19 rfl in_X8 (by decide) wd1709) ?_
  refine ac (s_aldn (M := M_Mm_lays) (pc := 22) (k := 0) h22) ?_
  refine ac (s_get (M := M_Mm_lays) (pc := 23) (T := TX8) (N := 29) h23 rfl in_X8 (by decide) wd1710) ?_
  refine ac (s_ildn (M := M_Mm_lays) (pc := 26) (k := 2) h26) ?_
  refine ac (s_iast (M := M_Mm_lays) (pc := 27) h27) ?_
  refine ac (s_aldn (M := M_Mm_lays) (pc := 28) (k := 0) h28) ?_
  refine ac (s_aldn (M := M_Mm_lays) (pc := 29) (k := 0) h29) ?_
  refine ac (s_get (M := M_Mm_lays) (pc := 30) (T := TX8) (N := 29) h30 rfl in_X8 (by decide) wd1710) ?_
  refine ac (s_iconst (M := M_Mm_lays) (pc := 33) h33 rfl) ?_
  refine ac (s_iadd (M := M_Mm_lays) (pc := 34) h34) ?_
  refine ac (s_puti (M := M_Mm_lays) (pc := 35) (T := TX8) (N := 29) (ty0 := tyX8) h35 ⟨rfl, in_X8, by decide, wd1710, tyX8_ok, nmX8, (Or.inl rfl)⟩ rfl) ?_
  refine ac (s_vret (M := M_Mm_lays) (pc := 38) h38 rfl) ?_
  exact ac_nil
theorem e0_Mm_adds : decode prog_10_method_67_code 0 = .ok (.aload_n 0, 1) ∧ decode prog_10_method_67_code 1 = .ok (.invokevirtual 198, 3) ∧ decode prog_10_method_67_code 4 = .ok (.ifCond .ne 4, 3) ∧ decode prog_10_method_67_code 7 = .ok (.return_, 1) ∧ decode prog_10_method_67_code 8 = .ok (.iconst 5, 1) ∧ decode prog_10_method_67_code 9 = .ok (.aload_n 0, 1) ∧ decode prog_10_method_67_code 10 = .ok (.getfield 295, 3) ∧ decode prog_10_method_67_code 13 = .ok (.imul, 1) ∧ decode prog_10_method_67_code 14 = .ok (.istore 5, 2) ∧ decode prog_10_method_67_code 16 = .ok (.aload_n 0, 1) ∧ decode prog_10_method_67_code 17 = .ok (.getfield 36, 3) ∧ decode prog_10_method_67_code 20 = .ok (.iload 5, 2) := by decide +kernel
theorem e1_Mm_adds : decode prog_10_method_67_code 22 = .ok (.iload_n 1, 1) ∧ decode prog_10_method_67_code 23 = .ok (.iastore, 1) ∧ decode prog_10_method_67_code 24 = .ok (.aload_n 0, 1) ∧ decode prog_10_method_67_code 25 = .ok (.getfield 36, 3) ∧ decode prog_10_method_67_code 28 = .ok (.iload 5, 2) ∧ decode prog_10_method_67_code 30 = .ok (.iconst 1, 1) ∧ decode prog_10_method_67_code 31 = .ok (.iadd, 1) ∧ decode prog_10_method_67_code 32 = .ok (.iload_n 2, 1) ∧ decode prog_10_method_67_code 33 = .ok (.iastore, 1) ∧ decode prog_10_method_67_code 34 = .ok (.aload_n 0, 1) ∧ decode prog_10_method_67_code 35 = .ok (.getfield 36, 3) ∧ decode prog_10_method_67_code 38 = .ok (.iload 5, 2) := by decide +kernel
theorem e2_Mm_adds : decode prog_10_method_67_code 40 = .ok (.iconst 2, 1) ∧ decode prog_10_method_67_code 41 = .ok (.iadd, 1) ∧ decode prog_10_method_67_code 42 = .ok (.iload_n 3, 1) ∧ decode prog_10_method_67_code 43 = .ok (.iastore, 1) ∧ decode prog_10_method_67_code 44 = .ok (.aload_n 0, 1) ∧ decode prog_10_method_67_code 45 = .ok (.getfield 36, 3) ∧ decode prog_10_method_67_code 48 = .ok (.iload 5, 2) ∧ decode prog_10_method_67_code 50 = .ok (.iconst 3, 1) ∧ decode prog_10_method_67_code 51 = .ok (.iadd, 1) ∧ decode prog_10_method_67_code 52 = .ok (.iload 4, 2) ∧ decode prog_10_method_67_code 54 = .ok (.iastore, 1) ∧ decode prog_10_method_67_code 55 = .ok (.aload_n 0, 1) := by decide +kernel
theorem e3_Mm_adds : decode prog_10_method_67_code 56 = .ok (.getfield 36, 3) ∧ decode prog_10_method_67_code 59 = .ok (.iload 5, 2) ∧ decode prog_10_method_67_code 61 = .ok (.iconst 4, 1) ∧ decode prog_10_method_67_code 62 = .ok (.iadd, 1) ∧ decode prog_10_method_67_code 63 = .ok (.aload_n 0, 1) ∧ decode prog_10_method_67_code 64 = .ok (.getfield 274, 3) ∧ decode prog_10_method_67_code 67 = .ok (.iastore, 1) ∧ decode prog_10_method_67_code 68 = .ok (.aload_n 0, 1) ∧ decode prog_10_method_67_code 69 = .ok (.aload_n 0, 1) ∧ decode prog_10_method_67_code 70 = .ok (.getfield 295, 3) ∧ decode prog_10_method_67_code 73 = .ok (.iconst 1, 1) ∧ decode prog_10_method_67_code 74 = .ok (.iadd, 1) := by decide +kernel
theorem e4_Mm_adds : decode prog_10_method_67_code 75 = .ok (.putfield 295, 3) ∧ decode prog_10_method_67_code 78 = .ok (.return_, 1) := by decide +kernel
def T_Mm_adds : TT := [(0, o_ald 0 1), (1, o_callV M_Mm_isGood 8 1 4), (4, o_if_ne 8 7), (7, o_vret), (8, o_push (.int (iI (5))) 9), (9, o_ald 0 10), (10, o_get 8 18 13), (13, o_imul 14), (14, o_ist 5 16), (16, o_ald 0 17), (17, o_get 8 17 20), (20, o_ild 5 22), (22, o_ild 1 23), (23, o_iast 24), (24, o_ald 0 25), (25, o_get 8 17 28), (28, o_ild 5 30), (30, o_push (.int (iI (1))) 31), (31, o_iadd 32), (32, o_ild 2 33), (33, o_iast 34), (34, o_ald 0 35), (35, o_get 8 17 38), (38, o_ild 5 40), (40, o_push (.int (iI (2))) 41), (41, o_iadd 42), (42, o_ild 3 43), (43, o_iast 44), (44, o_ald 0 45), (45, o_get 8 17 48), (48, o_ild 5 50), (50, o_push (.int (iI (3))) 51), (51, o_iadd 52), (52, o_ild 4 54), (54, o_iast 55), (55, o_ald 0 56), (56, o_get 8 17 59), (59, o_ild 5 61), (61, o_push (.int (iI (4))) 62), (62, o_iadd 63), (63, o_ald 0 64), (64, o_get 8 21 67), (67, o_iast 68), (68, o_ald 0 69), (69, o_ald 0 70), (70, o_get 8 18 73), (73, o_push (.int (iI (1))) 74), (74, o_iadd 75), (75, o_puti 8 18 78), (78, o_vret)]
theorem k_Mm_adds : ∀ x ∈ T_Mm_adds, SO M_Mm_adds x.1 x.2 := by
  obtain ⟨h0, h1, h4, h7, h8, h9, h10, h13, h14, h16, h17, h20⟩ := e0_Mm_adds
  obtain ⟨h22, h23, h24, h25, h28, h30, h31, h32, h33, h34, h35, h38⟩ := e1_Mm_adds
  obtain ⟨h40, h41, h42, h43, h44, h45, h48, h50, h51, h52, h54, h55⟩ := e2_Mm_adds
  obtain ⟨h56, h59, h61, h62, h63, h64, h67, h68, h69, h70, h73, h74⟩ := e3_Mm_adds
  obtain ⟨h75, h78⟩ := e4_Mm_adds
  refine ac (s_aldn (M := M_Mm_adds) (pc := 0) (k := 0) h0) ?_
  refine ac (s_callV (M := M_Mm_adds) (pc := 1) (tz_Mm rfl) h1 q_Mm_isGood wd1835 wd1837 wd35 rfl (T := TX8) (N := 29) rfl) ?_
  refine ac (s_if_ne (M := M_Mm_adds) (pc := 4) h4 (by decide)) ?_
  refine ac (s_vret (M := M_Mm_adds) (pc := 7) h7 rfl) ?_
  refine ac (s_iconst (M := M_Mm_adds) (pc := 8) h8 rfl) ?_
  refine ac (s_aldn (M := M_Mm_adds) (pc := 9) (k := 0) h9) ?_
  refine ac (s_get (M := M_Mm_adds) (pc := 10) (T := TX8) (N := 29) h10 rfl in_X8 (by decide) wd1707) ?_
  refine ac (s_imul (M := M_Mm_adds) (pc := 13) h13) ?_
  refine ac (s_ist (M := M_Mm_adds) (pc := 14) h14 (by decide)) ?_
  refine ac (s_aldn (M := M_Mm_adds) (pc := 16) (k := 0) h16) ?_
  refine ac (s_get (M := M_Mm_adds) (pc := 17) (T := TX8) (N := 29) h17 rfl in_X8 (by decide) wd1706) ?_
  refine ac (s_ild (M := M_Mm_adds) (pc := 20) h20) ?_
  refine ac (s_ildn (M := M_Mm_adds) (pc := 22) (k := 1) h22) ?_
  refine ac (s_iast (M := M_Mm_adds) (pc := 23) h23) ?_
  refine ac (s_aldn (M := M_Mm_adds) (pc := 24) (k := 0) h24) ?_
  refine ac (s_get (M := M_Mm_adds) (pc := 25) (T := TX8) (N := 29) h25 rfl in_X8 (by decide) wd1706) ?_
  refine ac (s_ild (M := M_Mm_adds) (pc := 28) h28) ?_
  refine ac (s_iconst (M := M_Mm_adds) (pc := 30) h30 rfl) ?_
  refine ac (s_iadd (M := M_Mm_adds) (pc := 31) h31) ?_
  refine ac (s_ildn (M := M_Mm_adds) (pc := 32) (k := 2) h32) ?_
  refine ac (s_iast (M := M_Mm_adds) (pc := 33) h33) ?_
  refine ac (s_aldn (M := M_Mm_adds) (pc := 34) (k := 0) h34) ?_
  refine ac (s_get (M := M_Mm_adds) (pc := 35) (T := TX8) (N := 29) h35 rfl in_X8 (by decide) wd1706) ?_
  refine ac (s_ild (M := M_Mm_adds) (pc := 38) h38) ?_
  refine ac (s_iconst (M := M_Mm_adds) (pc := 40) h40 rfl) ?_
  refine ac (s_iadd (M := M_Mm_adds) (pc := 41) h41) ?_
  refine ac (s_ildn (M := M_Mm_adds) (pc := 42) (k := 3) h42) ?_
  refine ac (s_iast (M := M_Mm_adds) (pc := 43) h43) ?_
  refine ac (s_aldn (M := M_Mm_adds) (pc := 44) (k := 0) h44) ?_
  refine ac (s_get (M := M_Mm_adds) (pc := 45) (T := TX8) (N := 29) h45 rfl in_X8 (by decide) wd1706) ?_
  refine ac (s_ild (M := M_Mm_adds) (pc := 48) h48) ?_
  refine ac (s_iconst (M := M_Mm_adds) (pc := 50) h50 rfl) ?_
  refine ac (s_iadd (M := M_Mm_adds) (pc := 51) h51) ?_
  refine ac (s_ild (M := M_Mm_adds) (pc := 52) h52) ?_
  refine ac (s_iast (M := M_Mm_adds) (pc := 54) h54) ?_
  refine ac (s_aldn (M := M_Mm_adds) (pc := 55) (k := 0) h55) ?_
  refine ac (s_get (M := M_Mm_adds) (pc := 56) (T := TX8) (N := 29) h56 rfl in_X8 (by decide) wd1706) ?_
  refine ac (s_ild (M := M_Mm_adds) (pc := 59) h59) ?_
  refine ac (s_iconst (M := M_Mm_adds) (pc := 61) h61 rfl) ?_
  refine ac (s_iadd (M := M_Mm_adds) (pc := 62) h62) ?_
  refine ac (s_aldn (M := M_Mm_adds) (pc := 63) (k := 0) h63) ?_
  refine ac (s_get (M := M_Mm_adds) (pc := 64) (T := TX8) (N := 29) h64 rfl in_X8 (by decide) wd1710) ?_
  refine ac (s_iast (M := M_Mm_adds) (pc := 67) h67) ?_
  refine ac (s_aldn (M := M_Mm_adds) (pc := 68) (k := 0) h68) ?_
  refine ac (s_aldn (M := M_Mm_adds) (pc := 69) (k := 0) h69) ?_
  refine ac (s_get (M := M_Mm_adds) (pc := 70) (T := TX8) (N := 29) h70 rfl in_X8 (by decide) wd1707) ?_
  refine ac (s_iconst (M := M_Mm_adds) (pc := 73) h73 rfl) ?_
  refine ac (s_iadd (M := M_Mm_adds) (pc := 74) h74) ?_
  refine ac (s_puti (M := M_Mm_adds) (pc := 75) (T := TX8) (N := 29) (ty0 := tyX8) h75 ⟨rfl, in_X8, by decide, wd1707, tyX8_ok, nmX8, (Or.inl rfl)⟩ rfl) ?_
  refine ac (s_vret (M := M_Mm_adds) (pc := 78) h78 rfl) ?_
  exact ac_nil
theorem e0_Mm_keeps : decode prog_10_method_27_code 0 = .ok (.aload_n 0, 1) ∧ decode prog_10_method_27_code 1 = .ok (.getfield 129, 3) ∧ decode prog_10_method_27_code 4 = .ok (.bipush 8, 2) ∧ decode prog_10_method_27_code 6 = .ok (.if_icmp .ne 30, 3) ∧ decode prog_10_method_27_code 9 = .ok (.aload_n 0, 1) ∧ decode prog_10_method_27_code 10 = .ok (.getfield 23, 3) ∧ decode prog_10_method_27_code 13 = .ok (.bipush 70, 2) ∧ decode prog_10_method_27_code 15 = .ok (.aload_n 0, 1) ∧ decode prog_10_method_27_code 16 = .ok (.getfield 23, 3) ∧ decode prog_10_method_27_code 19 = .ok (.iconst 0, 1) ∧ decode prog_10_method_27_code 20 = .ok (.sipush 490, 3) ∧ decode prog_10_method_27_code 23 = .ok (.invokestatic 132, 3) := by decide +kernel
theorem e1_Mm_keeps : decode prog_10_method_27_code 26 = .ok (.aload_n 0, 1) ∧ decode prog_10_method_27_code 27 = .ok (.aload_n 0, 1) ∧ decode prog_10_method_27_code 28 = .ok (.getfield 129, 3) ∧ decode prog_10_method_27_code 31 = .ok (.iconst 1, 1) ∧ decode prog_10_method_27_code 32 = .ok (.isub, 1) ∧ decode prog_10_method_27_code 33 = .ok (.putfield 129, 3) ∧ decode prog_10_method_27_code 36 = .ok (.aload_n 0, 1) ∧ decode prog_10_method_27_code 37 = .ok (.getfield 13, 3) ∧ decode prog_10_method_27_code 40 = .ok (.iconst 0, 1) ∧ decode prog_10_method_27_code 41 = .ok (.aload_n 0, 1) ∧ decode prog_10_method_27_code 42 = .ok (.getfield 23, 3) ∧ decode prog_10_method_27_code 45 = .ok (.bipush 70, 2) := by decide +kernel
theorem e2_Mm_keeps : decode prog_10_method_27_code 47 = .ok (.aload_n 0, 1) ∧ decode prog_10_method_27_code 48 = .ok (.getfield 129, 3) ∧ decode prog_10_method_27_code 51 = .ok (.imul, 1) ∧ decode prog_10_method_27_code 52 = .ok (.bipush 70, 2) ∧ decode prog_10_method_27_code 54 = .ok (.invokestatic 132, 3) ∧ decode prog_10_method_27_code 57 = .ok (.aload_n 0, 1) ∧ decode prog_10_method_27_code 58 = .ok (.aload_n 0, 1) ∧ decode prog_10_method_27_code 59 = .ok (.getfield 129, 3) ∧ decode prog_10_method_27_code 62 = .ok (.iconst 1, 1) ∧ decode prog_10_method_27_code 63 = .ok (.iadd, 1) ∧ decode prog_10_method_27_code 64 = .ok (.putfield 129, 3) ∧ decode prog_10_method_27_code 67 = .ok (.return_, 1) := by decide +kernel
def T_Mm_keeps : TT := [(0, o_ald 0 1), (1, o_get 8 5 4), (4, o_push (.int (iI (8))) 6), (6, o_icmp_ne 36 9), (9, o_ald 0 10), (10, o_get 8 4 13), (13, o_push (.int (iI (70))) 15), (15, o_ald 0 16), (16, o_get 8 4 19), (19, o_push (.int (iI (0))) 20), (20, o_push (.int (iI (490))) 23), (23, o_call M_Mm_copies 5 26), (26, o_ald 0 27), (27, o_ald 0 28), (28, o_get 8 5 31), (31, o_push (.int (iI (1))) 32), (32, o_isub 33), (33, o_puti 8 5 36), (36, o_ald 0 37), (37, o_get 8 1 40), (40, o_push (.int (iI (0))) 41), (41, o_ald 0 42), (42, o_get 8 4 45), (45, o_push (.int (iI (70))) 47), (47, o_ald 0 48), (48, o_get 8 5 51), (51, o_imul 52), (52, o_push (.int (iI (70))) 54), (54, o_call M_Mm_copies 5 57), (57, o_ald 0 58), (58, o_ald 0 59), (59, o_get 8 5 62), (62, o_push (.int (iI (1))) 63), (63, o_iadd 64), (64, o_puti 8 5 67), (67, o_vret)]
theorem k_Mm_keeps : ∀ x ∈ T_Mm_keeps, SO M_Mm_keeps x.1 x.2 := by
  obtain ⟨h0, h1, h4, h6, h9, h10, h13, h15, h16, h19, h20, h23⟩ := e0_Mm_keeps
  obtain ⟨h26, h27, h28, h31, h32, h33, h36, h37, h40, h41, h42, h45⟩ := e1_Mm_keeps
  obtain ⟨h47, h48, h51, h52, h54, h57, h58, h59, h62, h63, h64, h67⟩ := e2_Mm_keeps
  refine ac (s_aldn (M := M_Mm_keeps) (pc := 0) (k := 0) h0) ?_
  refine ac (s_get (M := M_Mm_keeps) (pc := 1) (T := TX8) (N := 29) h1 rfl in_X8 (by decide) wd1694) ?_
  refine ac (s_bipush (M := M_Mm_keeps) (pc := 4) h4 (by decide)) ?_
  refine ac (s_icmp_ne (M := M_Mm_keeps) (pc := 6) h6 (by decide)) ?_
  refine ac (s_aldn (M := M_Mm_keeps) (pc := 9) (k := 0) h9) ?_
  refine ac (s_get (M := M_Mm_keeps) (pc := 10) (T := TX8) (N := 29) h10 rfl in_X8 (by decide) wd1693) ?_
  refine ac (s_bipush (M := M_Mm_keeps) (pc := 13) h13 (by decide)) ?_
  refine ac (s_aldn (M := M_Mm_keeps) (pc := 15) (k := 0) h15) ?_
  refine ac (s_get (M := M_Mm_keeps) (pc := 16) (T := TX8) (N := 29) h16 rfl in_X8 (by decide) wd1693) ?_
  refine ac (s_iconst (M := M_Mm_keeps) (pc := 19) h19 rfl) ?_
  refine ac (s_sipush (M := M_Mm_keeps) (pc := 20) h20 (by decide)) ?_
  refine ac (s_callS (M := M_Mm_keeps) (pc := 23) (tz_Mm rfl) h23 q_Mm_copies wd1804 wd1805) ?_
  refine ac (s_aldn (M := M_Mm_keeps) (pc := 26) (k := 0) h26) ?_
  refine ac (s_aldn (M := M_Mm_keeps) (pc := 27) (k := 0) h27) ?_
  refine ac (s_get (M := M_Mm_keeps) (pc := 28) (T := TX8) (N := 29) h28 rfl in_X8 (by decide) wd1694) ?_
  refine ac (s_iconst (M := M_Mm_keeps) (pc := 31) h31 rfl) ?_
  refine ac (s_isub (M := M_Mm_keeps) (pc := 32) h32) ?_
  refine ac (s_puti (M := M_Mm_keeps) (pc := 33) (T := TX8) (N := 29) (ty0 := tyX8) h33 ⟨rfl, in_X8, by decide, wd1694, tyX8_ok, nmX8, (Or.inl rfl)⟩ rfl) ?_
  refine ac (s_aldn (M := M_Mm_keeps) (pc := 36) (k := 0) h36) ?_
  refine ac (s_get (M := M_Mm_keeps) (pc := 37) (T := TX8) (N := 29) h37 rfl in_X8 (by decide) wd1690) ?_
  refine ac (s_iconst (M := M_Mm_keeps) (pc := 40) h40 rfl) ?_
  refine ac (s_aldn (M := M_Mm_keeps) (pc := 41) (k := 0) h41) ?_
  refine ac (s_get (M := M_Mm_keeps) (pc := 42) (T := TX8) (N := 29) h42 rfl in_X8 (by decide) wd1693) ?_
  refine ac (s_bipush (M := M_Mm_keeps) (pc := 45) h45 (by decide)) ?_
  refine ac (s_aldn (M := M_Mm_keeps) (pc := 47) (k := 0) h47) ?_
  refine ac (s_get (M := M_Mm_keeps) (pc := 48) (T := TX8) (N := 29) h48 rfl in_X8 (by decide) wd1694) ?_
  refine ac (s_imul (M := M_Mm_keeps) (pc := 51) h51) ?_
  refine ac (s_bipush (M := M_Mm_keeps) (pc := 52) h52 (by decide)) ?_
  refine ac (s_callS (M := M_Mm_keeps) (pc := 54) (tz_Mm rfl) h54 q_Mm_copies wd1804 wd1805) ?_
  refine ac (s_aldn (M := M_Mm_keeps) (pc := 57) (k := 0) h57) ?_
  refine ac (s_aldn (M := M_Mm_keeps) (pc := 58) (k := 0) h58) ?_
  refine ac (s_get (M := M_Mm_keeps) (pc := 59) (T := TX8) (N := 29) h59 rfl in_X8 (by decide) wd1694) ?_
  refine ac (s_iconst (M := M_Mm_keeps) (pc := 62) h62 rfl) ?_
  refine ac (s_iadd (M := M_Mm_keeps) (pc := 63) h63) ?_
  refine ac (s_puti (M := M_Mm_keeps) (pc := 64) (T := TX8) (N := 29) (ty0 := tyX8) h64 ⟨rfl, in_X8, by decide, wd1694, tyX8_ok, nmX8, (Or.inl rfl)⟩ rfl) ?_
  refine ac (s_vret (M := M_Mm_keeps) (pc := 67) h67 rfl) ?_
  exact ac_nil
theorem e0_Mm_does : decode prog_10_method_71_code 0 = .ok (.iconst 5, 1) ∧ decode prog_10_method_71_code 1 = .ok (.iload_n 1, 1) ∧ decode prog_10_method_71_code 2 = .ok (.imul, 1) ∧ decode prog_10_method_71_code 3 = .ok (.istore_n 2, 1) ∧ decode prog_10_method_71_code 4 = .ok (.aload_n 0, 1) ∧ decode prog_10_method_71_code 5 = .ok (.getfield 36, 3) ∧ decode prog_10_method_71_code 8 = .ok (.iload_n 2, 1) ∧ decode prog_10_method_71_code 9 = .ok (.iconst 1, 1) ∧ decode prog_10_method_71_code 10 = .ok (.iadd, 1) ∧ decode prog_10_method_71_code 11 = .ok (.iaload, 1) ∧ decode prog_10_method_71_code 12 = .ok (.istore_n 3, 1) ∧ decode prog_10_method_71_code 13 = .ok (.aload_n 0, 1) := by decide +kernel
theorem e1_Mm_does : decode prog_10_method_71_code 14 = .ok (.getfield 36, 3) ∧ decode prog_10_method_71_code 17 = .ok (.iload_n 2, 1) ∧ decode prog_10_method_71_code 18 = .ok (.iconst 2, 1) ∧ decode prog_10_method_71_code 19 = .ok (.iadd, 1) ∧ decode prog_10_method_71_code 20 = .ok (.iaload, 1) ∧ decode prog_10_method_71_code 21 = .ok (.istore 4, 2) ∧ decode prog_10_method_71_code 23 = .ok (.aload_n 0, 1) ∧ decode prog_10_method_71_code 24 = .ok (.getfield 36, 3) ∧ decode prog_10_method_71_code 27 = .ok (.iload_n 2, 1) ∧ decode prog_10_method_71_code 28 = .ok (.iaload, 1) ∧ decode prog_10_method_71_code 29 = .ok (.tableswitch 76 0 3 #[31, 53, 67, 61], 31) ∧ decode prog_10_method_71_code 60 = .ok (.aload_n 0, 1) := by decide +kernel
theorem e2_Mm_does : decode prog_10_method_71_code 61 = .ok (.iload_n 3, 1) ∧ decode prog_10_method_71_code 62 = .ok (.aload_n 0, 1) ∧ decode prog_10_method_71_code 63 = .ok (.getfield 36, 3) ∧ decode prog_10_method_71_code 66 = .ok (.iload_n 2, 1) ∧ decode prog_10_method_71_code 67 = .ok (.iconst 3, 1) ∧ decode prog_10_method_71_code 68 = .ok (.iadd, 1) ∧ decode prog_10_method_71_code 69 = .ok (.iaload, 1) ∧ decode prog_10_method_71_code 70 = .ok (.aload_n 0, 1) ∧ decode prog_10_method_71_code 71 = .ok (.getfield 36, 3) ∧ decode prog_10_method_71_code 74 = .ok (.iload_n 2, 1) ∧ decode prog_10_method_71_code 75 = .ok (.iconst 4, 1) ∧ decode prog_10_method_71_code 76 = .ok (.iadd, 1) := by decide +kernel
theorem e3_Mm_does : decode prog_10_method_71_code 77 = .ok (.iaload, 1) ∧ decode prog_10_method_71_code 78 = .ok (.invokevirtual 321, 3) ∧ decode prog_10_method_71_code 81 = .ok (.ireturn, 1) ∧ decode prog_10_method_71_code 82 = .ok (.aload_n 0, 1) ∧ decode prog_10_method_71_code 83 = .ok (.iload_n 3, 1) ∧ decode prog_10_method_71_code 84 = .ok (.iload 4, 2) ∧ decode prog_10_method_71_code 86 = .ok (.invokevirtual 325, 3) ∧ decode prog_10_method_71_code 89 = .ok (.ireturn, 1) ∧ decode prog_10_method_71_code 90 = .ok (.aload_n 0, 1) ∧ decode prog_10_method_71_code 91 = .ok (.iload_n 3, 1) ∧ decode prog_10_method_71_code 92 = .ok (.invokevirtual 328, 3) ∧ decode prog_10_method_71_code 95 = .ok (.ireturn, 1) := by decide +kernel
theorem e4_Mm_does : decode prog_10_method_71_code 96 = .ok (.aload_n 0, 1) ∧ decode prog_10_method_71_code 97 = .ok (.iload_n 3, 1) ∧ decode prog_10_method_71_code 98 = .ok (.iload 4, 2) ∧ decode prog_10_method_71_code 100 = .ok (.invokevirtual 331, 3) ∧ decode prog_10_method_71_code 103 = .ok (.iconst 0, 1) ∧ decode prog_10_method_71_code 104 = .ok (.ireturn, 1) ∧ decode prog_10_method_71_code 105 = .ok (.aload_n 0, 1) ∧ decode prog_10_method_71_code 106 = .ok (.getfield 13, 3) ∧ decode prog_10_method_71_code 109 = .ok (.iconst 2, 1) ∧ decode prog_10_method_71_code 110 = .ok (.iload_n 3, 1) ∧ decode prog_10_method_71_code 111 = .ok (.iastore, 1) ∧ decode prog_10_method_71_code 112 = .ok (.iconst 0, 1) := by decide +kernel
theorem e5_Mm_does : decode prog_10_method_71_code 113 = .ok (.ireturn, 1) := by decide +kernel
def T_Mm_does : TT := [(0, o_push (.int (iI (5))) 1), (1, o_ild 1 2), (2, o_imul 3), (3, o_ist 2 4), (4, o_ald 0 5), (5, o_get 8 17 8), (8, o_ild 2 9), (9, o_push (.int (iI (1))) 10), (10, o_iadd 11), (11, o_iald 12), (12, o_ist 3 13), (13, o_ald 0 14), (14, o_get 8 17 17), (17, o_ild 2 18), (18, o_push (.int (iI (2))) 19), (19, o_iadd 20), (20, o_iald 21), (21, o_ist 4 23), (23, o_ald 0 24), (24, o_get 8 17 27), (27, o_ild 2 28), (28, o_iald 29), (29, o_tsw 0 [60, 82, 96, 90] 105), (60, o_ald 0 61), (61, o_ild 3 62), (62, o_ald 0 63), (63, o_get 8 17 66), (66, o_ild 2 67), (67, o_push (.int (iI (3))) 68), (68, o_iadd 69), (69, o_iald 70), (70, o_ald 0 71), (71, o_get 8 17 74), (74, o_ild 2 75), (75, o_push (.int (iI (4))) 76), (76, o_iadd 77), (77, o_iald 78), (78, o_callV M_Mm_gives 8 4 81), (81, o_iret), (82, o_ald 0 83), (83, o_ild 3 84), (84, o_ild 4 86), (86, o_callV M_Mm_scales 8 3 89), (89, o_iret), (90, o_ald 0 91), (91, o_ild 3 92), (92, o_callV M_Mm_mendsNow 8 2 95), (95, o_iret), (96, o_ald 0 97), (97, o_ild 3 98), (98, o_ild 4 100), (100, o_callV M_Mm_swaps 8 3 103), (103, o_push (.int (iI (0))) 104), (104, o_iret), (105, o_ald 0 106), (106, o_get 8 1 109), (109, o_push (.int (iI (2))) 110), (110, o_ild 3 111), (111, o_iast 112), (112, o_push (.int (iI (0))) 113), (113, o_iret)]
theorem k_Mm_does : ∀ x ∈ T_Mm_does, SO M_Mm_does x.1 x.2 := by
  obtain ⟨h0, h1, h2, h3, h4, h5, h8, h9, h10, h11, h12, h13⟩ := e0_Mm_does
  obtain ⟨h14, h17, h18, h19, h20, h21, h23, h24, h27, h28, h29, h60⟩ := e1_Mm_does
  obtain ⟨h61, h62, h63, h66, h67, h68, h69, h70, h71, h74, h75, h76⟩ := e2_Mm_does
  obtain ⟨h77, h78, h81, h82, h83, h84, h86, h89, h90, h91, h92, h95⟩ := e3_Mm_does
  obtain ⟨h96, h97, h98, h100, h103, h104, h105, h106, h109, h110, h111, h112⟩ := e4_Mm_does
  have h113 := e5_Mm_does
  refine ac (s_iconst (M := M_Mm_does) (pc := 0) h0 rfl) ?_
  refine ac (s_ildn (M := M_Mm_does) (pc := 1) (k := 1) h1) ?_
  refine ac (s_imul (M := M_Mm_does) (pc := 2) h2) ?_
  refine ac (s_istn (M := M_Mm_does) (pc := 3) (k := 2) h3 (by decide)) ?_
  refine ac (s_aldn (M := M_Mm_does) (pc := 4) (k := 0) h4) ?_
  refine ac (s_get (M := M_Mm_does) (pc := 5) (T := TX8) (N := 29) h5 rfl in_X8 (by decide) wd1706) ?_
  refine ac (s_ildn (M := M_Mm_does) (pc := 8) (k := 2) h8) ?_
  refine ac (s_iconst (M := M_Mm_does) (pc := 9) h9 rfl) ?_
  refine ac (s_iadd (M := M_Mm_does) (pc := 10) h10) ?_
  refine ac (s_iald (M := M_Mm_does) (pc := 11) h11) ?_
  refine ac (s_istn (M := M_Mm_does) (pc := 12) (k := 3) h12 (by decide)) ?_
  refine ac (s_aldn (M := M_Mm_does) (pc := 13) (k := 0) h13) ?_
  refine ac (s_get (M := M_Mm_does) (pc := 14) (T := TX8) (N := 29) h14 rfl in_X8 (by decide) wd1706) ?_
  refine ac (s_ildn (M := M_Mm_does) (pc := 17) (k := 2) h17) ?_
  refine ac (s_iconst (M := M_Mm_does) (pc := 18) h18 rfl) ?_
  refine ac (s_iadd (M := M_Mm_does) (pc := 19) h19) ?_
  refine ac (s_iald (M := M_Mm_does) (pc := 20) h20) ?_
  refine ac (s_ist (M := M_Mm_does) (pc := 21) h21 (by decide)) ?_
  refine ac (s_aldn (M := M_Mm_does) (pc := 23) (k := 0) h23) ?_
  refine ac (s_get (M := M_Mm_does) (pc := 24) (T := TX8) (N := 29) h24 rfl in_X8 (by decide) wd1706) ?_
  refine ac (s_ildn (M := M_Mm_does) (pc := 27) (k := 2) h27) ?_
  refine ac (s_iald (M := M_Mm_does) (pc := 28) h28) ?_
  refine ac (s_tsw (M := M_Mm_does) (pc := 29) h29 (by decide) (by decide) (sw_all _ _ (by decide))) ?_
  refine ac (s_aldn (M := M_Mm_does) (pc := 60) (k := 0) h60) ?_
  refine ac (s_ildn (M := M_Mm_does) (pc := 61) (k := 3) h61) ?_
  refine ac (s_aldn (M := M_Mm_does) (pc := 62) (k := 0) h62) ?_
  refine ac (s_get (M := M_Mm_does) (pc := 63) (T := TX8) (N := 29) h63 rfl in_X8 (by decide) wd1706) ?_
  refine ac (s_ildn (M := M_Mm_does) (pc := 66) (k := 2) h66) ?_
  refine ac (s_iconst (M := M_Mm_does) (pc := 67) h67 rfl) ?_
  refine ac (s_iadd (M := M_Mm_does) (pc := 68) h68) ?_
  refine ac (s_iald (M := M_Mm_does) (pc := 69) h69) ?_
  refine ac (s_aldn (M := M_Mm_does) (pc := 70) (k := 0) h70) ?_
  refine ac (s_get (M := M_Mm_does) (pc := 71) (T := TX8) (N := 29) h71 rfl in_X8 (by decide) wd1706) ?_
  refine ac (s_ildn (M := M_Mm_does) (pc := 74) (k := 2) h74) ?_
  refine ac (s_iconst (M := M_Mm_does) (pc := 75) h75 rfl) ?_
  refine ac (s_iadd (M := M_Mm_does) (pc := 76) h76) ?_
  refine ac (s_iald (M := M_Mm_does) (pc := 77) h77) ?_
  refine ac (s_callV (M := M_Mm_does) (pc := 78) (tz_Mm rfl) h78 q_Mm_gives wd1972 wd1974 wd64 rfl (T := TX8) (N := 29) rfl) ?_
  refine ac (s_iret (M := M_Mm_does) (pc := 81) h81 rfl) ?_
  refine ac (s_aldn (M := M_Mm_does) (pc := 82) (k := 0) h82) ?_
  refine ac (s_ildn (M := M_Mm_does) (pc := 83) (k := 3) h83) ?_
  refine ac (s_ild (M := M_Mm_does) (pc := 84) h84) ?_
  refine ac (s_callV (M := M_Mm_does) (pc := 86) (tz_Mm rfl) h86 q_Mm_scales wd2033 wd2035 wd77 rfl (T := TX8) (N := 29) rfl) ?_
  refine ac (s_iret (M := M_Mm_does) (pc := 89) h89 rfl) ?_
  refine ac (s_aldn (M := M_Mm_does) (pc := 90) (k := 0) h90) ?_
  refine ac (s_ildn (M := M_Mm_does) (pc := 91) (k := 3) h91) ?_
  refine ac (s_callV (M := M_Mm_does) (pc := 92) (tz_Mm rfl) h92 q_Mm_mendsNow wd2041 wd2043 wd79 rfl (T := TX8) (N := 29) rfl) ?_
  refine ac (s_iret (M := M_Mm_does) (pc := 95) h95 rfl) ?_
  refine ac (s_aldn (M := M_Mm_does) (pc := 96) (k := 0) h96) ?_
  refine ac (s_ildn (M := M_Mm_does) (pc := 97) (k := 3) h97) ?_
  refine ac (s_ild (M := M_Mm_does) (pc := 98) h98) ?_
  refine ac (s_callV (M := M_Mm_does) (pc := 100) (tz_Mm rfl) h100 q_Mm_swaps wd2053 wd2055 wd82 rfl (T := TX8) (N := 29) rfl) ?_
  refine ac (s_iconst (M := M_Mm_does) (pc := 103) h103 rfl) ?_
  refine ac (s_iret (M := M_Mm_does) (pc := 104) h104 rfl) ?_
  refine ac (s_aldn (M := M_Mm_does) (pc := 105) (k := 0) h105) ?_
  refine ac (s_get (M := M_Mm_does) (pc := 106) (T := TX8) (N := 29) h106 rfl in_X8 (by decide) wd1690) ?_
  refine ac (s_iconst (M := M_Mm_does) (pc := 109) h109 rfl) ?_
  refine ac (s_ildn (M := M_Mm_does) (pc := 110) (k := 3) h110) ?_
  refine ac (s_iast (M := M_Mm_does) (pc := 111) h111) ?_
  refine ac (s_iconst (M := M_Mm_does) (pc := 112) h112 rfl) ?_
  refine ac (s_iret (M := M_Mm_does) (pc := 113) h113 rfl) ?_
  exact ac_nil
theorem e0_Mm_gives : decode prog_10_method_70_code 0 = .ok (.aload_n 0, 1) ∧ decode prog_10_method_70_code 1 = .ok (.bipush 8, 2) ∧ decode prog_10_method_70_code 3 = .ok (.putfield 311, 3) ∧ decode prog_10_method_70_code 6 = .ok (.iload_n 2, 1) ∧ decode prog_10_method_70_code 7 = .ok (.istore 4, 2) ∧ decode prog_10_method_70_code 9 = .ok (.iload 4, 2) ∧ decode prog_10_method_70_code 11 = .ok (.iload_n 3, 1) ∧ decode prog_10_method_70_code 12 = .ok (.if_icmp .ge 29, 3) ∧ decode prog_10_method_70_code 15 = .ok (.aload_n 0, 1) ∧ decode prog_10_method_70_code 16 = .ok (.iload 4, 2) ∧ decode prog_10_method_70_code 18 = .ok (.invokevirtual 318, 3) ∧ decode prog_10_method_70_code 21 = .ok (.istore 5, 2) := by decide +kernel
theorem e1_Mm_gives : decode prog_10_method_70_code 23 = .ok (.iload 5, 2) ∧ decode prog_10_method_70_code 25 = .ok (.ifCond .eq 10, 3) ∧ decode prog_10_method_70_code 28 = .ok (.aload_n 0, 1) ∧ decode prog_10_method_70_code 29 = .ok (.iload 5, 2) ∧ decode prog_10_method_70_code 31 = .ok (.invokevirtual 140, 3) ∧ decode prog_10_method_70_code 34 = .ok (.ireturn, 1) ∧ decode prog_10_method_70_code 35 = .ok (.iinc 4 1, 3) ∧ decode prog_10_method_70_code 38 = .ok (.goto (-29), 3) ∧ decode prog_10_method_70_code 41 = .ok (.aload_n 0, 1) ∧ decode prog_10_method_70_code 42 = .ok (.bipush 9, 2) ∧ decode prog_10_method_70_code 44 = .ok (.iload_n 1, 1) ∧ decode prog_10_method_70_code 45 = .ok (.invokevirtual 143, 3) := by decide +kernel
theorem e2_Mm_gives : decode prog_10_method_70_code 48 = .ok (.aload_n 0, 1) ∧ decode prog_10_method_70_code 49 = .ok (.iload_n 1, 1) ∧ decode prog_10_method_70_code 50 = .ok (.invokevirtual 147, 3) ∧ decode prog_10_method_70_code 53 = .ok (.ireturn, 1) := by decide +kernel
def T_Mm_gives : TT := [(0, o_ald 0 1), (1, o_push (.int (iI (8))) 3), (3, o_puti 8 23 6), (6, o_ild 2 7), (7, o_ist 4 9), (9, o_ild 4 11), (11, o_ild 3 12), (12, o_icmp_ge 41 15), (15, o_ald 0 16), (16, o_ild 4 18), (18, o_callV M_Mm_step 8 2 21), (21, o_ist 5 23), (23, o_ild 5 25), (25, o_if_eq 35 28), (28, o_ald 0 29), (29, o_ild 5 31), (31, o_callV M_Mm_refuses 8 2 34), (34, o_iret), (35, o_iinc 4 (iI (1)) 38), (38, o_goto 9), (41, o_ald 0 42), (42, o_push (.int (iI (9))) 44), (44, o_ild 1 45), (45, o_callV M_Mm_copiesRow 8 3 48), (48, o_ald 0 49), (49, o_ild 1 50), (50, o_callV M_Mm_acts 8 2 53), (53, o_iret)]
theorem k_Mm_gives : ∀ x ∈ T_Mm_gives, SO M_Mm_gives x.1 x.2 := by
  obtain ⟨h0, h1, h3, h6, h7, h9, h11, h12, h15, h16, h18, h21⟩ := e0_Mm_gives
  obtain ⟨h23, h25, h28, h29, h31, h34, h35, h38, h41, h42, h44, h45⟩ := e1_Mm_gives
  obtain ⟨h48, h49, h50, h53⟩ := e2_Mm_gives
  refine ac (s_aldn (M := M_Mm_gives) (pc := 0) (k := 0) h0) ?_
  refine ac (s_bipush (M := M_Mm_gives) (pc := 1) h1 (by decide)) ?_
  refine ac (s_puti (M := M_Mm_gives) (pc := 3) (T := TX8) (N := 29) (ty0 := tyX8) h3 ⟨rfl, in_X8, by decide, wd1712, tyX8_ok, nmX8, (Or.inl rfl)⟩ rfl) ?_
  refine ac (s_ildn (M := M_Mm_gives) (pc := 6) (k := 2) h6) ?_
  refine ac (s_ist (M := M_Mm_gives) (pc := 7) h7 (by decide)) ?_
  refine ac (s_ild (M := M_Mm_gives) (pc := 9) h9) ?_
  refine ac (s_ildn (M := M_Mm_gives) (pc := 11) (k := 3) h11) ?_
  refine ac (s_icmp_ge (M := M_Mm_gives) (pc := 12) h12 (by decide)) ?_
  refine ac (s_aldn (M := M_Mm_gives) (pc := 15) (k := 0) h15) ?_
  refine ac (s_ild (M := M_Mm_gives) (pc := 16) h16) ?_
  refine ac (s_callV (M := M_Mm_gives) (pc := 18) (tz_Mm rfl) h18 q_Mm_step wd1976 wd1978 wd65 rfl (T := TX8) (N := 29) rfl) ?_
  refine ac (s_ist (M := M_Mm_gives) (pc := 21) h21 (by decide)) ?_
  refine ac (s_ild (M := M_Mm_gives) (pc := 23) h23) ?_
  refine ac (s_if_eq (M := M_Mm_gives) (pc := 25) h25 (by decide)) ?_
  refine ac (s_aldn (M := M_Mm_gives) (pc := 28) (k := 0) h28) ?_
  refine ac (s_ild (M := M_Mm_gives) (pc := 29) h29) ?_
  refine ac (s_callV (M := M_Mm_gives) (pc := 31) (tz_Mm rfl) h31 q_Mm_refuses wd2021 wd2023 wd74 rfl (T := TX8) (N := 29) rfl) ?_
  refine ac (s_iret (M := M_Mm_gives) (pc := 34) h34 rfl) ?_
  refine ac (s_iinc (M := M_Mm_gives) (pc := 35) h35 rfl (by decide)) ?_
  refine ac (s_goto (M := M_Mm_gives) (pc := 38) h38 (by decide)) ?_
  refine ac (s_aldn (M := M_Mm_gives) (pc := 41) (k := 0) h41) ?_
  refine ac (s_bipush (M := M_Mm_gives) (pc := 42) h42 (by decide)) ?_
  refine ac (s_ildn (M := M_Mm_gives) (pc := 44) (k := 1) h44) ?_
  refine ac (s_callV (M := M_Mm_gives) (pc := 45) (tz_Mm rfl) h45 q_Mm_copiesRow wd1980 wd1982 wd66 rfl (T := TX8) (N := 29) rfl) ?_
  refine ac (s_aldn (M := M_Mm_gives) (pc := 48) (k := 0) h48) ?_
  refine ac (s_ildn (M := M_Mm_gives) (pc := 49) (k := 1) h49) ?_
  refine ac (s_callV (M := M_Mm_gives) (pc := 50) (tz_Mm rfl) h50 q_Mm_acts wd2029 wd2031 wd76 rfl (T := TX8) (N := 29) rfl) ?_
  refine ac (s_iret (M := M_Mm_gives) (pc := 53) h53 rfl) ?_
  exact ac_nil
theorem e0_Mm_step : decode prog_10_method_69_code 0 = .ok (.aload_n 0, 1) ∧ decode prog_10_method_69_code 1 = .ok (.getfield 39, 3) ∧ decode prog_10_method_69_code 4 = .ok (.iload_n 1, 1) ∧ decode prog_10_method_69_code 5 = .ok (.iaload, 1) ∧ decode prog_10_method_69_code 6 = .ok (.istore_n 2, 1) ∧ decode prog_10_method_69_code 7 = .ok (.iload_n 2, 1) ∧ decode prog_10_method_69_code 8 = .ok (.iconst 5, 1) ∧ decode prog_10_method_69_code 9 = .ok (.if_icmp .eq 9, 3) ∧ decode prog_10_method_69_code 12 = .ok (.iload_n 2, 1) ∧ decode prog_10_method_69_code 13 = .ok (.bipush 6, 2) ∧ decode prog_10_method_69_code 15 = .ok (.if_icmp .ne 52, 3) ∧ decode prog_10_method_69_code 18 = .ok (.aload_n 0, 1) := by decide +kernel
theorem e1_Mm_step : decode prog_10_method_69_code 19 = .ok (.aload_n 0, 1) ∧ decode prog_10_method_69_code 20 = .ok (.getfield 311, 3) ∧ decode prog_10_method_69_code 23 = .ok (.iconst 1, 1) ∧ decode prog_10_method_69_code 24 = .ok (.iadd, 1) ∧ decode prog_10_method_69_code 25 = .ok (.putfield 311, 3) ∧ decode prog_10_method_69_code 28 = .ok (.iload_n 2, 1) ∧ decode prog_10_method_69_code 29 = .ok (.iconst 5, 1) ∧ decode prog_10_method_69_code 30 = .ok (.if_icmp .ne 21, 3) ∧ decode prog_10_method_69_code 33 = .ok (.aload_n 0, 1) ∧ decode prog_10_method_69_code 34 = .ok (.aload_n 0, 1) ∧ decode prog_10_method_69_code 35 = .ok (.getfield 311, 3) ∧ decode prog_10_method_69_code 38 = .ok (.aload_n 0, 1) := by decide +kernel
theorem e2_Mm_step : decode prog_10_method_69_code 39 = .ok (.getfield 42, 3) ∧ decode prog_10_method_69_code 42 = .ok (.iload_n 1, 1) ∧ decode prog_10_method_69_code 43 = .ok (.iaload, 1) ∧ decode prog_10_method_69_code 44 = .ok (.i2l, 1) ∧ decode prog_10_method_69_code 45 = .ok (.invokevirtual 122, 3) ∧ decode prog_10_method_69_code 48 = .ok (.goto 17, 3) ∧ decode prog_10_method_69_code 51 = .ok (.aload_n 0, 1) ∧ decode prog_10_method_69_code 52 = .ok (.aload_n 0, 1) ∧ decode prog_10_method_69_code 53 = .ok (.getfield 42, 3) ∧ decode prog_10_method_69_code 56 = .ok (.iload_n 1, 1) ∧ decode prog_10_method_69_code 57 = .ok (.iaload, 1) ∧ decode prog_10_method_69_code 58 = .ok (.aload_n 0, 1) := by decide +kernel
theorem e3_Mm_step : decode prog_10_method_69_code 59 = .ok (.getfield 311, 3) ∧ decode prog_10_method_69_code 62 = .ok (.invokevirtual 143, 3) ∧ decode prog_10_method_69_code 65 = .ok (.iconst 0, 1) ∧ decode prog_10_method_69_code 66 = .ok (.ireturn, 1) ∧ decode prog_10_method_69_code 67 = .ok (.iload_n 2, 1) ∧ decode prog_10_method_69_code 68 = .ok (.bipush 7, 2) ∧ decode prog_10_method_69_code 70 = .ok (.if_icmp .ne 26, 3) ∧ decode prog_10_method_69_code 73 = .ok (.aload_n 0, 1) ∧ decode prog_10_method_69_code 74 = .ok (.bipush 8, 2) ∧ decode prog_10_method_69_code 76 = .ok (.lconst 0, 1) ∧ decode prog_10_method_69_code 77 = .ok (.invokevirtual 122, 3) ∧ decode prog_10_method_69_code 80 = .ok (.aload_n 0, 1) := by decide +kernel
theorem e4_Mm_step : decode prog_10_method_69_code 81 = .ok (.iconst 1, 1) ∧ decode prog_10_method_69_code 82 = .ok (.aload_n 0, 1) ∧ decode prog_10_method_69_code 83 = .ok (.getfield 311, 3) ∧ decode prog_10_method_69_code 86 = .ok (.bipush 8, 2) ∧ decode prog_10_method_69_code 88 = .ok (.aload_n 0, 1) ∧ decode prog_10_method_69_code 89 = .ok (.getfield 311, 3) ∧ decode prog_10_method_69_code 92 = .ok (.invokevirtual 314, 3) ∧ decode prog_10_method_69_code 95 = .ok (.ireturn, 1) ∧ decode prog_10_method_69_code 96 = .ok (.aload_n 0, 1) ∧ decode prog_10_method_69_code 97 = .ok (.aload_n 0, 1) ∧ decode prog_10_method_69_code 98 = .ok (.getfield 311, 3) ∧ decode prog_10_method_69_code 101 = .ok (.iconst 1, 1) := by decide +kernel
theorem e5_Mm_step : decode prog_10_method_69_code 102 = .ok (.isub, 1) ∧ decode prog_10_method_69_code 103 = .ok (.putfield 311, 3) ∧ decode prog_10_method_69_code 106 = .ok (.aload_n 0, 1) ∧ decode prog_10_method_69_code 107 = .ok (.iload_n 2, 1) ∧ decode prog_10_method_69_code 108 = .ok (.aload_n 0, 1) ∧ decode prog_10_method_69_code 109 = .ok (.getfield 311, 3) ∧ decode prog_10_method_69_code 112 = .ok (.aload_n 0, 1) ∧ decode prog_10_method_69_code 113 = .ok (.getfield 311, 3) ∧ decode prog_10_method_69_code 116 = .ok (.aload_n 0, 1) ∧ decode prog_10_method_69_code 117 = .ok (.getfield 311, 3) ∧ decode prog_10_method_69_code 120 = .ok (.iconst 1, 1) ∧ decode prog_10_method_69_code 121 = .ok (.iadd, 1) := by decide +kernel
theorem e6_Mm_step : decode prog_10_method_69_code 122 = .ok (.invokevirtual 314, 3) ∧ decode prog_10_method_69_code 125 = .ok (.ireturn, 1) := by decide +kernel
def T_Mm_step : TT := [(0, o_ald 0 1), (1, o_get 8 19 4), (4, o_ild 1 5), (5, o_iald 6), (6, o_ist 2 7), (7, o_ild 2 8), (8, o_push (.int (iI (5))) 9), (9, o_icmp_eq 18 12), (12, o_ild 2 13), (13, o_push (.int (iI (6))) 15), (15, o_icmp_ne 67 18), (18, o_ald 0 19), (19, o_ald 0 20), (20, o_get 8 23 23), (23, o_push (.int (iI (1))) 24), (24, o_iadd 25), (25, o_puti 8 23 28), (28, o_ild 2 29), (29, o_push (.int (iI (5))) 30), (30, o_icmp_ne 51 33), (33, o_ald 0 34), (34, o_ald 0 35), (35, o_get 8 23 38), (38, o_ald 0 39), (39, o_get 8 20 42), (42, o_ild 1 43), (43, o_iald 44), (44, o_i2l 45), (45, o_callV M_Mm_tells 8 3 48), (48, o_goto 65), (51, o_ald 0 52), (52, o_ald 0 53), (53, o_get 8 20 56), (56, o_ild 1 57), (57, o_iald 58), (58, o_ald 0 59), (59, o_get 8 23 62), (62, o_callV M_Mm_copiesRow 8 3 65), (65, o_push (.int (iI (0))) 66), (66, o_iret), (67, o_ild 2 68), (68, o_push (.int (iI (7))) 70), (70, o_icmp_ne 96 73), (73, o_ald 0 74), (74, o_push (.int (iI (8))) 76), (76, o_push (.long (lI 0)) 77), (77, o_callV M_Mm_tells 8 3 80), (80, o_ald 0 81), (81, o_push (.int (iI (1))) 82), (82, o_ald 0 83), (83, o_get 8 23 86), (86, o_push (.int (iI (8))) 88), (88, o_ald 0 89), (89, o_get 8 23 92), (92, o_callV M_Mm_works 8 5 95), (95, o_iret), (96, o_ald 0 97), (97, o_ald 0 98), (98, o_get 8 23 101), (101, o_push (.int (iI (1))) 102), (102, o_isub 103), (103, o_puti 8 23 106), (106, o_ald 0 107), (107, o_ild 2 108), (108, o_ald 0 109), (109, o_get 8 23 112), (112, o_ald 0 113), (113, o_get 8 23 116), (116, o_ald 0 117), (117, o_get 8 23 120), (120, o_push (.int (iI (1))) 121), (121, o_iadd 122), (122, o_callV M_Mm_works 8 5 125), (125, o_iret)]
theorem k_Mm_step : ∀ x ∈ T_Mm_step, SO M_Mm_step x.1 x.2 := by
  obtain ⟨h0, h1, h4, h5, h6, h7, h8, h9, h12, h13, h15, h18⟩ := e0_Mm_step
  obtain ⟨h19, h20, h23, h24, h25, h28, h29, h30, h33, h34, h35, h38⟩ := e1_Mm_step
  obtain ⟨h39, h42, h43, h44, h45, h48, h51, h52, h53, h56, h57, h58⟩ := e2_Mm_step
  obtain ⟨h59, h62, h65, h66, h67, h68, h70, h73, h74, h76, h77, h80⟩ := e3_Mm_step
  obtain ⟨h81, h82, h83, h86, h88, h89, h92, h95, h96, h97, h98, h101⟩ := e4_Mm_step
  obtain ⟨h102, h103, h106, h107, h108, h109, h112, h113, h116, h117, h120, h121⟩ := e5_Mm_step
  obtain ⟨h122, h125⟩ := e6_Mm_step
  refine ac (s_aldn (M := M_Mm_step) (pc := 0) (k := 0) h0) ?_
  refine ac (s_get (M := M_Mm_step) (pc := 1) (T := TX8) (N := 29) h1 rfl in_X8 (by decide) wd1708) ?_
  refine ac (s_ildn (M := M_Mm_step) (pc := 4) (k := 1) h4) ?_
  refine ac (s_iald (M := M_Mm_step) (pc := 5) h5) ?_
  refine ac (s_istn (M := M_Mm_step) (pc := 6) (k := 2) h6 (by decide)) ?_
  refine ac (s_ildn (M := M_Mm_step) (pc := 7) (k := 2) h7) ?_
  refine ac (s_iconst (M := M_Mm_step) (pc := 8) h8 rfl) ?_
  refine ac (s_icmp_eq (M := M_Mm_step) (pc := 9) h9 (by decide)) ?_
  refine ac (s_ildn (M := M_Mm_step) (pc := 12) (k := 2) h12) ?_
  refine ac (s_bipush (M := M_Mm_step) (pc := 13) h13 (by decide)) ?_
  refine ac (s_icmp_ne (M := M_Mm_step) (pc := 15) h15 (by decide)) ?_
  refine ac (s_aldn (M := M_Mm_step) (pc := 18) (k := 0) h18) ?_
  refine ac (s_aldn (M := M_Mm_step) (pc := 19) (k := 0) h19) ?_
  refine ac (s_get (M := M_Mm_step) (pc := 20) (T := TX8) (N := 29) h20 rfl in_X8 (by decide) wd1712) ?_
  refine ac (s_iconst (M := M_Mm_step) (pc := 23) h23 rfl) ?_
  refine ac (s_iadd (M := M_Mm_step) (pc := 24) h24) ?_
  refine ac (s_puti (M := M_Mm_step) (pc := 25) (T := TX8) (N := 29) (ty0 := tyX8) h25 ⟨rfl, in_X8, by decide, wd1712, tyX8_ok, nmX8, (Or.inl rfl)⟩ rfl) ?_
  refine ac (s_ildn (M := M_Mm_step) (pc := 28) (k := 2) h28) ?_
  refine ac (s_iconst (M := M_Mm_step) (pc := 29) h29 rfl) ?_
  refine ac (s_icmp_ne (M := M_Mm_step) (pc := 30) h30 (by decide)) ?_
  refine ac (s_aldn (M := M_Mm_step) (pc := 33) (k := 0) h33) ?_
  refine ac (s_aldn (M := M_Mm_step) (pc := 34) (k := 0) h34) ?_
  refine ac (s_get (M := M_Mm_step) (pc := 35) (T := TX8) (N := 29) h35 rfl in_X8 (by decide) wd1712) ?_
  refine ac (s_aldn (M := M_Mm_step) (pc := 38) (k := 0) h38) ?_
  refine ac (s_get (M := M_Mm_step) (pc := 39) (T := TX8) (N := 29) h39 rfl in_X8 (by decide) wd1709) ?_
  refine ac (s_ildn (M := M_Mm_step) (pc := 42) (k := 1) h42) ?_
  refine ac (s_iald (M := M_Mm_step) (pc := 43) h43) ?_
  refine ac (s_i2l (M := M_Mm_step) (pc := 44) h44) ?_
  refine ac (s_callV (M := M_Mm_step) (pc := 45) (tz_Mm rfl) h45 q_Mm_tells wd1914 wd1916 wd52 rfl (T := TX8) (N := 29) rfl) ?_
  refine ac (s_goto (M := M_Mm_step) (pc := 48) h48 (by decide)) ?_
  refine ac (s_aldn (M := M_Mm_step) (pc := 51) (k := 0) h51) ?_
  refine ac (s_aldn (M := M_Mm_step) (pc := 52) (k := 0) h52) ?_
  refine ac (s_get (M := M_Mm_step) (pc := 53) (T := TX8) (N := 29) h53 rfl in_X8 (by decide) wd1709) ?_
  refine ac (s_ildn (M := M_Mm_step) (pc := 56) (k := 1) h56) ?_
  refine ac (s_iald (M := M_Mm_step) (pc := 57) h57) ?_
  refine ac (s_aldn (M := M_Mm_step) (pc := 58) (k := 0) h58) ?_
  refine ac (s_get (M := M_Mm_step) (pc := 59) (T := TX8) (N := 29) h59 rfl in_X8 (by decide) wd1712) ?_
  refine ac (s_callV (M := M_Mm_step) (pc := 62) (tz_Mm rfl) h62 q_Mm_copiesRow wd1980 wd1982 wd66 rfl (T := TX8) (N := 29) rfl) ?_
  refine ac (s_iconst (M := M_Mm_step) (pc := 65) h65 rfl) ?_
  refine ac (s_iret (M := M_Mm_step) (pc := 66) h66 rfl) ?_
  refine ac (s_ildn (M := M_Mm_step) (pc := 67) (k := 2) h67) ?_
  refine ac (s_bipush (M := M_Mm_step) (pc := 68) h68 (by decide)) ?_
  refine ac (s_icmp_ne (M := M_Mm_step) (pc := 70) h70 (by decide)) ?_
  refine ac (s_aldn (M := M_Mm_step) (pc := 73) (k := 0) h73) ?_
  refine ac (s_bipush (M := M_Mm_step) (pc := 74) h74 (by decide)) ?_
  refine ac (s_lconst (M := M_Mm_step) (pc := 76) h76 (by decide)) ?_
  refine ac (s_callV (M := M_Mm_step) (pc := 77) (tz_Mm rfl) h77 q_Mm_tells wd1914 wd1916 wd52 rfl (T := TX8) (N := 29) rfl) ?_
  refine ac (s_aldn (M := M_Mm_step) (pc := 80) (k := 0) h80) ?_
  refine ac (s_iconst (M := M_Mm_step) (pc := 81) h81 rfl) ?_
  refine ac (s_aldn (M := M_Mm_step) (pc := 82) (k := 0) h82) ?_
  refine ac (s_get (M := M_Mm_step) (pc := 83) (T := TX8) (N := 29) h83 rfl in_X8 (by decide) wd1712) ?_
  refine ac (s_bipush (M := M_Mm_step) (pc := 86) h86 (by decide)) ?_
  refine ac (s_aldn (M := M_Mm_step) (pc := 88) (k := 0) h88) ?_
  refine ac (s_get (M := M_Mm_step) (pc := 89) (T := TX8) (N := 29) h89 rfl in_X8 (by decide) wd1712) ?_
  refine ac (s_callV (M := M_Mm_step) (pc := 92) (tz_Mm rfl) h92 q_Mm_works wd1988 wd1990 wd68 rfl (T := TX8) (N := 29) rfl) ?_
  refine ac (s_iret (M := M_Mm_step) (pc := 95) h95 rfl) ?_
  refine ac (s_aldn (M := M_Mm_step) (pc := 96) (k := 0) h96) ?_
  refine ac (s_aldn (M := M_Mm_step) (pc := 97) (k := 0) h97) ?_
  refine ac (s_get (M := M_Mm_step) (pc := 98) (T := TX8) (N := 29) h98 rfl in_X8 (by decide) wd1712) ?_
  refine ac (s_iconst (M := M_Mm_step) (pc := 101) h101 rfl) ?_
  refine ac (s_isub (M := M_Mm_step) (pc := 102) h102) ?_
  refine ac (s_puti (M := M_Mm_step) (pc := 103) (T := TX8) (N := 29) (ty0 := tyX8) h103 ⟨rfl, in_X8, by decide, wd1712, tyX8_ok, nmX8, (Or.inl rfl)⟩ rfl) ?_
  refine ac (s_aldn (M := M_Mm_step) (pc := 106) (k := 0) h106) ?_
  refine ac (s_ildn (M := M_Mm_step) (pc := 107) (k := 2) h107) ?_
  refine ac (s_aldn (M := M_Mm_step) (pc := 108) (k := 0) h108) ?_
  refine ac (s_get (M := M_Mm_step) (pc := 109) (T := TX8) (N := 29) h109 rfl in_X8 (by decide) wd1712) ?_
  refine ac (s_aldn (M := M_Mm_step) (pc := 112) (k := 0) h112) ?_
  refine ac (s_get (M := M_Mm_step) (pc := 113) (T := TX8) (N := 29) h113 rfl in_X8 (by decide) wd1712) ?_
  refine ac (s_aldn (M := M_Mm_step) (pc := 116) (k := 0) h116) ?_
  refine ac (s_get (M := M_Mm_step) (pc := 117) (T := TX8) (N := 29) h117 rfl in_X8 (by decide) wd1712) ?_
  refine ac (s_iconst (M := M_Mm_step) (pc := 120) h120 rfl) ?_
  refine ac (s_iadd (M := M_Mm_step) (pc := 121) h121) ?_
  refine ac (s_callV (M := M_Mm_step) (pc := 122) (tz_Mm rfl) h122 q_Mm_works wd1988 wd1990 wd68 rfl (T := TX8) (N := 29) rfl) ?_
  refine ac (s_iret (M := M_Mm_step) (pc := 125) h125 rfl) ?_
  exact ac_nil
theorem e0_Mm_copiesRow : decode prog_10_method_17_code 0 = .ok (.iconst 0, 1) ∧ decode prog_10_method_17_code 1 = .ok (.istore_n 3, 1) ∧ decode prog_10_method_17_code 2 = .ok (.iload_n 3, 1) ∧ decode prog_10_method_17_code 3 = .ok (.aload_n 0, 1) ∧ decode prog_10_method_17_code 4 = .ok (.invokevirtual 61, 3) ∧ decode prog_10_method_17_code 7 = .ok (.if_icmp .ge 21, 3) ∧ decode prog_10_method_17_code 10 = .ok (.aload_n 0, 1) ∧ decode prog_10_method_17_code 11 = .ok (.iload_n 2, 1) ∧ decode prog_10_method_17_code 12 = .ok (.iload_n 3, 1) ∧ decode prog_10_method_17_code 13 = .ok (.aload_n 0, 1) ∧ decode prog_10_method_17_code 14 = .ok (.iload_n 1, 1) ∧ decode prog_10_method_17_code 15 = .ok (.iload_n 3, 1) := by decide +kernel
theorem e1_Mm_copiesRow : decode prog_10_method_17_code 16 = .ok (.invokevirtual 86, 3) ∧ decode prog_10_method_17_code 19 = .ok (.invokevirtual 82, 3) ∧ decode prog_10_method_17_code 22 = .ok (.iinc 3 1, 3) ∧ decode prog_10_method_17_code 25 = .ok (.goto (-23), 3) ∧ decode prog_10_method_17_code 28 = .ok (.return_, 1) := by decide +kernel
def T_Mm_copiesRow : TT := [(0, o_push (.int (iI (0))) 1), (1, o_ist 3 2), (2, o_ild 3 3), (3, o_ald 0 4), (4, o_callV M_Mm_many 8 1 7), (7, o_icmp_ge 28 10), (10, o_ald 0 11), (11, o_ild 2 12), (12, o_ild 3 13), (13, o_ald 0 14), (14, o_ild 1 15), (15, o_ild 3 16), (16, o_callV M_Mm_restOf 8 3 19), (19, o_callV M_Mm_puts 8 4 22), (22, o_iinc 3 (iI (1)) 25), (25, o_goto 2), (28, o_vret)]
theorem k_Mm_copiesRow : ∀ x ∈ T_Mm_copiesRow, SO M_Mm_copiesRow x.1 x.2 := by
  obtain ⟨h0, h1, h2, h3, h4, h7, h10, h11, h12, h13, h14, h15⟩ := e0_Mm_copiesRow
  obtain ⟨h16, h19, h22, h25, h28⟩ := e1_Mm_copiesRow
  refine ac (s_iconst (M := M_Mm_copiesRow) (pc := 0) h0 rfl) ?_
  refine ac (s_istn (M := M_Mm_copiesRow) (pc := 1) (k := 3) h1 (by decide)) ?_
  refine ac (s_ildn (M := M_Mm_copiesRow) (pc := 2) (k := 3) h2) ?_
  refine ac (s_aldn (M := M_Mm_copiesRow) (pc := 3) (k := 0) h3) ?_
  refine ac (s_callV (M := M_Mm_copiesRow) (pc := 4) (tz_Mm rfl) h4 q_Mm_many wd1849 wd1851 wd38 rfl (T := TX8) (N := 29) rfl) ?_
  refine ac (s_icmp_ge (M := M_Mm_copiesRow) (pc := 7) h7 (by decide)) ?_
  refine ac (s_aldn (M := M_Mm_copiesRow) (pc := 10) (k := 0) h10) ?_
  refine ac (s_ildn (M := M_Mm_copiesRow) (pc := 11) (k := 2) h11) ?_
  refine ac (s_ildn (M := M_Mm_copiesRow) (pc := 12) (k := 3) h12) ?_
  refine ac (s_aldn (M := M_Mm_copiesRow) (pc := 13) (k := 0) h13) ?_
  refine ac (s_ildn (M := M_Mm_copiesRow) (pc := 14) (k := 1) h14) ?_
  refine ac (s_ildn (M := M_Mm_copiesRow) (pc := 15) (k := 3) h15) ?_
  refine ac (s_callV (M := M_Mm_copiesRow) (pc := 16) (tz_Mm rfl) h16 q_Mm_restOf wd1984 wd1986 wd67 rfl (T := TX8) (N := 29) rfl) ?_
  refine ac (s_callV (M := M_Mm_copiesRow) (pc := 19) (tz_Mm rfl) h19 q_Mm_puts wd1921 wd1923 wd53 rfl (T := TX8) (N := 29) rfl) ?_
  refine ac (s_iinc (M := M_Mm_copiesRow) (pc := 22) h22 rfl (by decide)) ?_
  refine ac (s_goto (M := M_Mm_copiesRow) (pc := 25) h25 (by decide)) ?_
  refine ac (s_vret (M := M_Mm_copiesRow) (pc := 28) h28 rfl) ?_
  exact ac_nil
theorem e0_Mm_restOf : decode prog_10_method_14_code 0 = .ok (.iload_n 1, 1) ∧ decode prog_10_method_14_code 1 = .ok (.bipush 8, 2) ∧ decode prog_10_method_14_code 3 = .ok (.if_icmp .ge 20, 3) ∧ decode prog_10_method_14_code 6 = .ok (.aload_n 0, 1) ∧ decode prog_10_method_14_code 7 = .ok (.getfield 13, 3) ∧ decode prog_10_method_14_code 10 = .ok (.bipush 20, 2) ∧ decode prog_10_method_14_code 12 = .ok (.bipush 6, 2) ∧ decode prog_10_method_14_code 14 = .ok (.iload_n 1, 1) ∧ decode prog_10_method_14_code 15 = .ok (.imul, 1) ∧ decode prog_10_method_14_code 16 = .ok (.iadd, 1) ∧ decode prog_10_method_14_code 17 = .ok (.iload_n 2, 1) ∧ decode prog_10_method_14_code 18 = .ok (.iadd, 1) := by decide +kernel
theorem e1_Mm_restOf : decode prog_10_method_14_code 19 = .ok (.iaload, 1) ∧ decode prog_10_method_14_code 20 = .ok (.goto 14, 3) ∧ decode prog_10_method_14_code 23 = .ok (.aload_n 0, 1) ∧ decode prog_10_method_14_code 24 = .ok (.getfield 26, 3) ∧ decode prog_10_method_14_code 27 = .ok (.bipush 6, 2) ∧ decode prog_10_method_14_code 29 = .ok (.iload_n 1, 1) ∧ decode prog_10_method_14_code 30 = .ok (.imul, 1) ∧ decode prog_10_method_14_code 31 = .ok (.iload_n 2, 1) ∧ decode prog_10_method_14_code 32 = .ok (.iadd, 1) ∧ decode prog_10_method_14_code 33 = .ok (.iaload, 1) ∧ decode prog_10_method_14_code 34 = .ok (.ireturn, 1) := by decide +kernel
def T_Mm_restOf : TT := [(0, o_ild 1 1), (1, o_push (.int (iI (8))) 3), (3, o_icmp_ge 23 6), (6, o_ald 0 7), (7, o_get 8 1 10), (10, o_push (.int (iI (20))) 12), (12, o_push (.int (iI (6))) 14), (14, o_ild 1 15), (15, o_imul 16), (16, o_iadd 17), (17, o_ild 2 18), (18, o_iadd 19), (19, o_iald 20), (20, o_goto 34), (23, o_ald 0 24), (24, o_get 8 7 27), (27, o_push (.int (iI (6))) 29), (29, o_ild 1 30), (30, o_imul 31), (31, o_ild 2 32), (32, o_iadd 33), (33, o_iald 34), (34, o_iret)]
theorem k_Mm_restOf : ∀ x ∈ T_Mm_restOf, SO M_Mm_restOf x.1 x.2 := by
  obtain ⟨h0, h1, h3, h6, h7, h10, h12, h14, h15, h16, h17, h18⟩ := e0_Mm_restOf
  obtain ⟨h19, h20, h23, h24, h27, h29, h30, h31, h32, h33, h34⟩ := e1_Mm_restOf
  refine ac (s_ildn (M := M_Mm_restOf) (pc := 0) (k := 1) h0) ?_
  refine ac (s_bipush (M := M_Mm_restOf) (pc := 1) h1 (by decide)) ?_
  refine ac (s_icmp_ge (M := M_Mm_restOf) (pc := 3) h3 (by decide)) ?_
  refine ac (s_aldn (M := M_Mm_restOf) (pc := 6) (k := 0) h6) ?_
  refine ac (s_get (M := M_Mm_restOf) (pc := 7) (T := TX8) (N := 29) h7 rfl in_X8 (by decide) wd1690) ?_
  refine ac (s_bipush (M := M_Mm_restOf) (pc := 10) h10 (by decide)) ?_
  refine ac (s_bipush (M := M_Mm_restOf) (pc := 12) h12 (by decide)) ?_
  refine ac (s_ildn (M := M_Mm_restOf) (pc := 14) (k := 1) h14) ?_
  refine ac (s_imul (M := M_Mm_restOf) (pc := 15) h15) ?_
  refine ac (s_iadd (M := M_Mm_restOf) (pc := 16) h16) ?_
  refine ac (s_ildn (M := M_Mm_restOf) (pc := 17) (k := 2) h17) ?_
  refine ac (s_iadd (M := M_Mm_restOf) (pc := 18) h18) ?_
  refine ac (s_iald (M := M_Mm_restOf) (pc := 19) h19) ?_
  refine ac (s_goto (M := M_Mm_restOf) (pc := 20) h20 (by decide)) ?_
  refine ac (s_aldn (M := M_Mm_restOf) (pc := 23) (k := 0) h23) ?_
  refine ac (s_get (M := M_Mm_restOf) (pc := 24) (T := TX8) (N := 29) h24 rfl in_X8 (by decide) wd1696) ?_
  refine ac (s_bipush (M := M_Mm_restOf) (pc := 27) h27 (by decide)) ?_
  refine ac (s_ildn (M := M_Mm_restOf) (pc := 29) (k := 1) h29) ?_
  refine ac (s_imul (M := M_Mm_restOf) (pc := 30) h30) ?_
  refine ac (s_ildn (M := M_Mm_restOf) (pc := 31) (k := 2) h31) ?_
  refine ac (s_iadd (M := M_Mm_restOf) (pc := 32) h32) ?_
  refine ac (s_iald (M := M_Mm_restOf) (pc := 33) h33) ?_
  refine ac (s_iret (M := M_Mm_restOf) (pc := 34) h34 rfl) ?_
  exact ac_nil
theorem e0_Mm_works : decode prog_10_method_26_code 0 = .ok (.aload_n 0, 1) ∧ decode prog_10_method_26_code 1 = .ok (.iload_n 3, 1) ∧ decode prog_10_method_26_code 2 = .ok (.invokevirtual 104, 3) ∧ decode prog_10_method_26_code 5 = .ok (.lstore 5, 2) ∧ decode prog_10_method_26_code 7 = .ok (.aload_n 0, 1) ∧ decode prog_10_method_26_code 8 = .ok (.iload 4, 2) ∧ decode prog_10_method_26_code 10 = .ok (.invokevirtual 104, 3) ∧ decode prog_10_method_26_code 13 = .ok (.lstore 7, 2) ∧ decode prog_10_method_26_code 15 = .ok (.aload_n 0, 1) ∧ decode prog_10_method_26_code 16 = .ok (.iload_n 1, 1) ∧ decode prog_10_method_26_code 17 = .ok (.invokevirtual 114, 3) ∧ decode prog_10_method_26_code 20 = .ok (.ifCond .eq 12, 3) := by decide +kernel
theorem e1_Mm_works : decode prog_10_method_26_code 23 = .ok (.lload 7, 2) ∧ decode prog_10_method_26_code 25 = .ok (.lconst 0, 1) ∧ decode prog_10_method_26_code 26 = .ok (.lcmp, 1) ∧ decode prog_10_method_26_code 27 = .ok (.ifCond .ne 5, 3) ∧ decode prog_10_method_26_code 30 = .ok (.iconst 1, 1) ∧ decode prog_10_method_26_code 31 = .ok (.ireturn, 1) ∧ decode prog_10_method_26_code 32 = .ok (.aload_n 0, 1) ∧ decode prog_10_method_26_code 33 = .ok (.iload_n 2, 1) ∧ decode prog_10_method_26_code 34 = .ok (.iload_n 1, 1) ∧ decode prog_10_method_26_code 35 = .ok (.lload 5, 2) ∧ decode prog_10_method_26_code 37 = .ok (.lload 7, 2) ∧ decode prog_10_method_26_code 39 = .ok (.invokestatic 118, 3) := by decide +kernel
theorem e2_Mm_works : decode prog_10_method_26_code 42 = .ok (.invokevirtual 122, 3) ∧ decode prog_10_method_26_code 45 = .ok (.aload_n 0, 1) ∧ decode prog_10_method_26_code 46 = .ok (.getfield 13, 3) ∧ decode prog_10_method_26_code 49 = .ok (.iconst 2, 1) ∧ decode prog_10_method_26_code 50 = .ok (.iaload, 1) ∧ decode prog_10_method_26_code 51 = .ok (.iconst 1, 1) ∧ decode prog_10_method_26_code 52 = .ok (.if_icmp .ne 15, 3) ∧ decode prog_10_method_26_code 55 = .ok (.aload_n 0, 1) ∧ decode prog_10_method_26_code 56 = .ok (.iload_n 2, 1) ∧ decode prog_10_method_26_code 57 = .ok (.invokevirtual 126, 3) ∧ decode prog_10_method_26_code 60 = .ok (.ifCond .ne 7, 3) ∧ decode prog_10_method_26_code 63 = .ok (.iconst 2, 1) := by decide +kernel
theorem e3_Mm_works : decode prog_10_method_26_code 64 = .ok (.goto 4, 3) ∧ decode prog_10_method_26_code 67 = .ok (.iconst 0, 1) ∧ decode prog_10_method_26_code 68 = .ok (.ireturn, 1) := by decide +kernel
def T_Mm_works : TT := [(0, o_ald 0 1), (1, o_ild 3 2), (2, o_callV M_Mm_numberOf 8 2 5), (5, o_lst 5 7), (7, o_ald 0 8), (8, o_ild 4 10), (10, o_callV M_Mm_numberOf 8 2 13), (13, o_lst 7 15), (15, o_ald 0 16), (16, o_ild 1 17), (17, o_callV M_Mm_divides 8 2 20), (20, o_if_eq 32 23), (23, o_lld 7 25), (25, o_push (.long (lI 0)) 26), (26, o_lc_ne 32 30), (30, o_push (.int (iI (1))) 31), (31, o_iret), (32, o_ald 0 33), (33, o_ild 2 34), (34, o_ild 1 35), (35, o_lld 5 37), (37, o_lld 7 39), (39, o_call M_Mm_worked 3 42), (42, o_callV M_Mm_tells 8 3 45), (45, o_ald 0 46), (46, o_get 8 1 49), (49, o_push (.int (iI (2))) 50), (50, o_iald 51), (51, o_push (.int (iI (1))) 52), (52, o_icmp_ne 67 55), (55, o_ald 0 56), (56, o_ild 2 57), (57, o_callV M_Mm_soundNow 8 2 60), (60, o_if_ne 67 63), (63, o_push (.int (iI (2))) 64), (64, o_goto 68), (67, o_push (.int (iI (0))) 68), (68, o_iret)]
theorem k_Mm_works : ∀ x ∈ T_Mm_works, SO M_Mm_works x.1 x.2 := by
  obtain ⟨h0, h1, h2, h5, h7, h8, h10, h13, h15, h16, h17, h20⟩ := e0_Mm_works
  obtain ⟨h23, h25, h26, h27, h30, h31, h32, h33, h34, h35, h37, h39⟩ := e1_Mm_works
  obtain ⟨h42, h45, h46, h49, h50, h51, h52, h55, h56, h57, h60, h63⟩ := e2_Mm_works
  obtain ⟨h64, h67, h68⟩ := e3_Mm_works
  refine ac (s_aldn (M := M_Mm_works) (pc := 0) (k := 0) h0) ?_
  refine ac (s_ildn (M := M_Mm_works) (pc := 1) (k := 3) h1) ?_
  refine ac (s_callV (M := M_Mm_works) (pc := 2) (tz_Mm rfl) h2 q_Mm_numberOf wd1992 wd1994 wd69 rfl (T := TX8) (N := 29) rfl) ?_
  refine ac (s_lst (M := M_Mm_works) (pc := 5) h5 (by decide)) ?_
  refine ac (s_aldn (M := M_Mm_works) (pc := 7) (k := 0) h7) ?_
  refine ac (s_ild (M := M_Mm_works) (pc := 8) h8) ?_
  refine ac (s_callV (M := M_Mm_works) (pc := 10) (tz_Mm rfl) h10 q_Mm_numberOf wd1992 wd1994 wd69 rfl (T := TX8) (N := 29) rfl) ?_
  refine ac (s_lst (M := M_Mm_works) (pc := 13) h13 (by decide)) ?_
  refine ac (s_aldn (M := M_Mm_works) (pc := 15) (k := 0) h15) ?_
  refine ac (s_ildn (M := M_Mm_works) (pc := 16) (k := 1) h16) ?_
  refine ac (s_callV (M := M_Mm_works) (pc := 17) (tz_Mm rfl) h17 q_Mm_divides wd2003 wd2005 wd71 rfl (T := TX8) (N := 29) rfl) ?_
  refine ac (s_if_eq (M := M_Mm_works) (pc := 20) h20 (by decide)) ?_
  refine ac (s_lld (M := M_Mm_works) (pc := 23) h23) ?_
  refine ac (s_lconst (M := M_Mm_works) (pc := 25) h25 (by decide)) ?_
  refine ac (s_lc_ne (M := M_Mm_works) (pc := 26) h26 h27 (by decide)) ?_
  refine ac (s_iconst (M := M_Mm_works) (pc := 30) h30 rfl) ?_
  refine ac (s_iret (M := M_Mm_works) (pc := 31) h31 rfl) ?_
  refine ac (s_aldn (M := M_Mm_works) (pc := 32) (k := 0) h32) ?_
  refine ac (s_ildn (M := M_Mm_works) (pc := 33) (k := 2) h33) ?_
  refine ac (s_ildn (M := M_Mm_works) (pc := 34) (k := 1) h34) ?_
  refine ac (s_lld (M := M_Mm_works) (pc := 35) h35) ?_
  refine ac (s_lld (M := M_Mm_works) (pc := 37) h37) ?_
  refine ac (s_callS (M := M_Mm_works) (pc := 39) (tz_Mm rfl) h39 q_Mm_worked wd2007 wd2008) ?_
  refine ac (s_callV (M := M_Mm_works) (pc := 42) (tz_Mm rfl) h42 q_Mm_tells wd1914 wd1916 wd52 rfl (T := TX8) (N := 29) rfl) ?_
  refine ac (s_aldn (M := M_Mm_works) (pc := 45) (k := 0) h45) ?_
  refine ac (s_get (M := M_Mm_works) (pc := 46) (T := TX8) (N := 29) h46 rfl in_X8 (by decide) wd1690) ?_
  refine ac (s_iconst (M := M_Mm_works) (pc := 49) h49 rfl) ?_
  refine ac (s_iald (M := M_Mm_works) (pc := 50) h50) ?_
  refine ac (s_iconst (M := M_Mm_works) (pc := 51) h51 rfl) ?_
  refine ac (s_icmp_ne (M := M_Mm_works) (pc := 52) h52 (by decide)) ?_
  refine ac (s_aldn (M := M_Mm_works) (pc := 55) (k := 0) h55) ?_
  refine ac (s_ildn (M := M_Mm_works) (pc := 56) (k := 2) h56) ?_
  refine ac (s_callV (M := M_Mm_works) (pc := 57) (tz_Mm rfl) h57 q_Mm_soundNow wd2013 wd2015 wd72 rfl (T := TX8) (N := 29) rfl) ?_
  refine ac (s_if_ne (M := M_Mm_works) (pc := 60) h60 (by decide)) ?_
  refine ac (s_iconst (M := M_Mm_works) (pc := 63) h63 rfl) ?_
  refine ac (s_goto (M := M_Mm_works) (pc := 64) h64 (by decide)) ?_
  refine ac (s_iconst (M := M_Mm_works) (pc := 67) h67 rfl) ?_
  refine ac (s_iret (M := M_Mm_works) (pc := 68) h68 rfl) ?_
  exact ac_nil
theorem e0_Mm_numberOf : decode prog_10_method_20_code 0 = .ok (.aload_n 0, 1) ∧ decode prog_10_method_20_code 1 = .ok (.iload_n 1, 1) ∧ decode prog_10_method_20_code 2 = .ok (.invokevirtual 90, 3) ∧ decode prog_10_method_20_code 5 = .ok (.aload_n 0, 1) ∧ decode prog_10_method_20_code 6 = .ok (.invokevirtual 93, 3) ∧ decode prog_10_method_20_code 9 = .ok (.invokestatic 97, 3) ∧ decode prog_10_method_20_code 12 = .ok (.lreturn, 1) := by decide +kernel
def T_Mm_numberOf : TT := [(0, o_ald 0 1), (1, o_ild 1 2), (2, o_callV M_Mm_valueOf 8 2 5), (5, o_ald 0 6), (6, o_callV M_Mm_whole 8 1 9), (9, o_call M_Mm_signed 2 12), (12, o_lret)]
theorem k_Mm_numberOf : ∀ x ∈ T_Mm_numberOf, SO M_Mm_numberOf x.1 x.2 := by
  obtain ⟨h0, h1, h2, h5, h6, h9, h12⟩ := e0_Mm_numberOf
  refine ac (s_aldn (M := M_Mm_numberOf) (pc := 0) (k := 0) h0) ?_
  refine ac (s_ildn (M := M_Mm_numberOf) (pc := 1) (k := 1) h1) ?_
  refine ac (s_callV (M := M_Mm_numberOf) (pc := 2) (tz_Mm rfl) h2 q_Mm_valueOf wd1996 wd1998 wd70 rfl (T := TX8) (N := 29) rfl) ?_
  refine ac (s_aldn (M := M_Mm_numberOf) (pc := 5) (k := 0) h5) ?_
  refine ac (s_callV (M := M_Mm_numberOf) (pc := 6) (tz_Mm rfl) h6 q_Mm_whole wd1858 wd1860 wd40 rfl (T := TX8) (N := 29) rfl) ?_
  refine ac (s_callS (M := M_Mm_numberOf) (pc := 9) (tz_Mm rfl) h9 q_Mm_signed wd2000 wd2001) ?_
  refine ac (s_lret (M := M_Mm_numberOf) (pc := 12) h12 rfl) ?_
  exact ac_nil
theorem e0_Mm_valueOf : decode prog_10_method_18_code 0 = .ok (.lconst 0, 1) ∧ decode prog_10_method_18_code 1 = .ok (.lstore_n 2, 1) ∧ decode prog_10_method_18_code 2 = .ok (.lconst 1, 1) ∧ decode prog_10_method_18_code 3 = .ok (.lstore 4, 2) ∧ decode prog_10_method_18_code 5 = .ok (.iconst 0, 1) ∧ decode prog_10_method_18_code 6 = .ok (.istore 6, 2) ∧ decode prog_10_method_18_code 8 = .ok (.iload 6, 2) ∧ decode prog_10_method_18_code 10 = .ok (.aload_n 0, 1) ∧ decode prog_10_method_18_code 11 = .ok (.invokevirtual 61, 3) ∧ decode prog_10_method_18_code 14 = .ok (.if_icmp .ge 50, 3) ∧ decode prog_10_method_18_code 17 = .ok (.lload_n 2, 1) ∧ decode prog_10_method_18_code 18 = .ok (.aload_n 0, 1) := by decide +kernel
theorem e1_Mm_valueOf : decode prog_10_method_18_code 19 = .ok (.iload 6, 2) ∧ decode prog_10_method_18_code 21 = .ok (.invokevirtual 65, 3) ∧ decode prog_10_method_18_code 24 = .ok (.i2l, 1) ∧ decode prog_10_method_18_code 25 = .ok (.lrem, 1) ∧ decode prog_10_method_18_code 26 = .ok (.aload_n 0, 1) ∧ decode prog_10_method_18_code 27 = .ok (.iload_n 1, 1) ∧ decode prog_10_method_18_code 28 = .ok (.iload 6, 2) ∧ decode prog_10_method_18_code 30 = .ok (.invokevirtual 86, 3) ∧ decode prog_10_method_18_code 33 = .ok (.i2l, 1) ∧ decode prog_10_method_18_code 34 = .ok (.lcmp, 1) ∧ decode prog_10_method_18_code 35 = .ok (.ifCond .eq 11, 3) ∧ decode prog_10_method_18_code 38 = .ok (.lload_n 2, 1) := by decide +kernel
theorem e2_Mm_valueOf : decode prog_10_method_18_code 39 = .ok (.lload 4, 2) ∧ decode prog_10_method_18_code 41 = .ok (.ladd, 1) ∧ decode prog_10_method_18_code 42 = .ok (.lstore_n 2, 1) ∧ decode prog_10_method_18_code 43 = .ok (.goto (-26), 3) ∧ decode prog_10_method_18_code 46 = .ok (.lload 4, 2) ∧ decode prog_10_method_18_code 48 = .ok (.aload_n 0, 1) ∧ decode prog_10_method_18_code 49 = .ok (.iload 6, 2) ∧ decode prog_10_method_18_code 51 = .ok (.invokevirtual 65, 3) ∧ decode prog_10_method_18_code 54 = .ok (.i2l, 1) ∧ decode prog_10_method_18_code 55 = .ok (.lmul, 1) ∧ decode prog_10_method_18_code 56 = .ok (.lstore 4, 2) ∧ decode prog_10_method_18_code 58 = .ok (.iinc 6 1, 3) := by decide +kernel
theorem e3_Mm_valueOf : decode prog_10_method_18_code 61 = .ok (.goto (-53), 3) ∧ decode prog_10_method_18_code 64 = .ok (.lload_n 2, 1) ∧ decode prog_10_method_18_code 65 = .ok (.lreturn, 1) := by decide +kernel
def T_Mm_valueOf : TT := [(0, o_push (.long (lI 0)) 1), (1, o_lst 2 2), (2, o_push (.long (lI 1)) 3), (3, o_lst 4 5), (5, o_push (.int (iI (0))) 6), (6, o_ist 6 8), (8, o_ild 6 10), (10, o_ald 0 11), (11, o_callV M_Mm_many 8 1 14), (14, o_icmp_ge 64 17), (17, o_lld 2 18), (18, o_ald 0 19), (19, o_ild 6 21), (21, o_callV M_Mm_mod 8 2 24), (24, o_i2l 25), (25, o_lrem 26), (26, o_ald 0 27), (27, o_ild 1 28), (28, o_ild 6 30), (30, o_callV M_Mm_restOf 8 3 33), (33, o_i2l 34), (34, o_lc_eq 46 38), (38, o_lld 2 39), (39, o_lld 4 41), (41, o_ladd 42), (42, o_lst 2 43), (43, o_goto 17), (46, o_lld 4 48), (48, o_ald 0 49), (49, o_ild 6 51), (51, o_callV M_Mm_mod 8 2 54), (54, o_i2l 55), (55, o_lmul 56), (56, o_lst 4 58), (58, o_iinc 6 (iI (1)) 61), (61, o_goto 8), (64, o_lld 2 65), (65, o_lret)]
theorem k_Mm_valueOf : ∀ x ∈ T_Mm_valueOf, SO M_Mm_valueOf x.1 x.2 := by
  obtain ⟨h0, h1, h2, h3, h5, h6, h8, h10, h11, h14, h17, h18⟩ := e0_Mm_valueOf
  obtain ⟨h19, h21, h24, h25, h26, h27, h28, h30, h33, h34, h35, h38⟩ := e1_Mm_valueOf
  obtain ⟨h39, h41, h42, h43, h46, h48, h49, h51, h54, h55, h56, h58⟩ := e2_Mm_valueOf
  obtain ⟨h61, h64, h65⟩ := e3_Mm_valueOf
  refine ac (s_lconst (M := M_Mm_valueOf) (pc := 0) h0 (by decide)) ?_
  refine ac (s_lstn (M := M_Mm_valueOf) (pc := 1) (k := 2) h1 (by decide)) ?_
  refine ac (s_lconst (M := M_Mm_valueOf) (pc := 2) h2 (by decide)) ?_
  refine ac (s_lst (M := M_Mm_valueOf) (pc := 3) h3 (by decide)) ?_
  refine ac (s_iconst (M := M_Mm_valueOf) (pc := 5) h5 rfl) ?_
  refine ac (s_ist (M := M_Mm_valueOf) (pc := 6) h6 (by decide)) ?_
  refine ac (s_ild (M := M_Mm_valueOf) (pc := 8) h8) ?_
  refine ac (s_aldn (M := M_Mm_valueOf) (pc := 10) (k := 0) h10) ?_
  refine ac (s_callV (M := M_Mm_valueOf) (pc := 11) (tz_Mm rfl) h11 q_Mm_many wd1849 wd1851 wd38 rfl (T := TX8) (N := 29) rfl) ?_
  refine ac (s_icmp_ge (M := M_Mm_valueOf) (pc := 14) h14 (by decide)) ?_
  refine ac (s_lldn (M := M_Mm_valueOf) (pc := 17) (k := 2) h17) ?_
  refine ac (s_aldn (M := M_Mm_valueOf) (pc := 18) (k := 0) h18) ?_
  refine ac (s_ild (M := M_Mm_valueOf) (pc := 19) h19) ?_
  refine ac (s_callV (M := M_Mm_valueOf) (pc := 21) (tz_Mm rfl) h21 q_Mm_mod wd1866 wd1868 wd42 rfl (T := TX8) (N := 29) rfl) ?_
  refine ac (s_i2l (M := M_Mm_valueOf) (pc := 24) h24) ?_
  refine ac (s_lrem (M := M_Mm_valueOf) (pc := 25) h25) ?_
  refine ac (s_aldn (M := M_Mm_valueOf) (pc := 26) (k := 0) h26) ?_
  refine ac (s_ildn (M := M_Mm_valueOf) (pc := 27) (k := 1) h27) ?_
  refine ac (s_ild (M := M_Mm_valueOf) (pc := 28) h28) ?_
  refine ac (s_callV (M := M_Mm_valueOf) (pc := 30) (tz_Mm rfl) h30 q_Mm_restOf wd1984 wd1986 wd67 rfl (T := TX8) (N := 29) rfl) ?_
  refine ac (s_i2l (M := M_Mm_valueOf) (pc := 33) h33) ?_
  refine ac (s_lc_eq (M := M_Mm_valueOf) (pc := 34) h34 h35 (by decide)) ?_
  refine ac (s_lldn (M := M_Mm_valueOf) (pc := 38) (k := 2) h38) ?_
  refine ac (s_lld (M := M_Mm_valueOf) (pc := 39) h39) ?_
  refine ac (s_ladd (M := M_Mm_valueOf) (pc := 41) h41) ?_
  refine ac (s_lstn (M := M_Mm_valueOf) (pc := 42) (k := 2) h42 (by decide)) ?_
  refine ac (s_goto (M := M_Mm_valueOf) (pc := 43) h43 (by decide)) ?_
  refine ac (s_lld (M := M_Mm_valueOf) (pc := 46) h46) ?_
  refine ac (s_aldn (M := M_Mm_valueOf) (pc := 48) (k := 0) h48) ?_
  refine ac (s_ild (M := M_Mm_valueOf) (pc := 49) h49) ?_
  refine ac (s_callV (M := M_Mm_valueOf) (pc := 51) (tz_Mm rfl) h51 q_Mm_mod wd1866 wd1868 wd42 rfl (T := TX8) (N := 29) rfl) ?_
  refine ac (s_i2l (M := M_Mm_valueOf) (pc := 54) h54) ?_
  refine ac (s_lmul (M := M_Mm_valueOf) (pc := 55) h55) ?_
  refine ac (s_lst (M := M_Mm_valueOf) (pc := 56) h56 (by decide)) ?_
  refine ac (s_iinc (M := M_Mm_valueOf) (pc := 58) h58 rfl (by decide)) ?_
  refine ac (s_goto (M := M_Mm_valueOf) (pc := 61) h61 (by decide)) ?_
  refine ac (s_lldn (M := M_Mm_valueOf) (pc := 64) (k := 2) h64) ?_
  refine ac (s_lret (M := M_Mm_valueOf) (pc := 65) h65 rfl) ?_
  exact ac_nil
theorem e0_Mm_signed : decode prog_10_method_19_code 0 = .ok (.lload_n 0, 1) ∧ decode prog_10_method_19_code 1 = .ok (.lload_n 2, 1) ∧ decode prog_10_method_19_code 2 = .ok (.lconst 1, 1) ∧ decode prog_10_method_19_code 3 = .ok (.lsub, 1) ∧ decode prog_10_method_19_code 4 = .ok (.ldc2_w 76, 3) ∧ decode prog_10_method_19_code 7 = .ok (.ldiv, 1) ∧ decode prog_10_method_19_code 8 = .ok (.lcmp, 1) ∧ decode prog_10_method_19_code 9 = .ok (.ifCond .gt 7, 3) ∧ decode prog_10_method_19_code 12 = .ok (.lload_n 0, 1) ∧ decode prog_10_method_19_code 13 = .ok (.goto 6, 3) ∧ decode prog_10_method_19_code 16 = .ok (.lload_n 0, 1) ∧ decode prog_10_method_19_code 17 = .ok (.lload_n 2, 1) := by decide +kernel
theorem e1_Mm_signed : decode prog_10_method_19_code 18 = .ok (.lsub, 1) ∧ decode prog_10_method_19_code 19 = .ok (.lreturn, 1) := by decide +kernel
def T_Mm_signed : TT := [(0, o_lld 0 1), (1, o_lld 2 2), (2, o_push (.long (lI 1)) 3), (3, o_lsub 4), (4, o_push (.long (lI (2))) 7), (7, o_ldiv 8), (8, o_lc_gt 16 12), (12, o_lld 0 13), (13, o_goto 19), (16, o_lld 0 17), (17, o_lld 2 18), (18, o_lsub 19), (19, o_lret)]
theorem k_Mm_signed : ∀ x ∈ T_Mm_signed, SO M_Mm_signed x.1 x.2 := by
  obtain ⟨h0, h1, h2, h3, h4, h7, h8, h9, h12, h13, h16, h17⟩ := e0_Mm_signed
  obtain ⟨h18, h19⟩ := e1_Mm_signed
  refine ac (s_lldn (M := M_Mm_signed) (pc := 0) (k := 0) h0) ?_
  refine ac (s_lldn (M := M_Mm_signed) (pc := 1) (k := 2) h1) ?_
  refine ac (s_lconst (M := M_Mm_signed) (pc := 2) h2 (by decide)) ?_
  refine ac (s_lsub (M := M_Mm_signed) (pc := 3) h3) ?_
  refine ac (s_ldc2 (M := M_Mm_signed) (pc := 4) h4 wd1857) ?_
  refine ac (s_ldiv (M := M_Mm_signed) (pc := 7) h7) ?_
  refine ac (s_lc_gt (M := M_Mm_signed) (pc := 8) h8 h9 (by decide)) ?_
  refine ac (s_lldn (M := M_Mm_signed) (pc := 12) (k := 0) h12) ?_
  refine ac (s_goto (M := M_Mm_signed) (pc := 13) h13 (by decide)) ?_
  refine ac (s_lldn (M := M_Mm_signed) (pc := 16) (k := 0) h16) ?_
  refine ac (s_lldn (M := M_Mm_signed) (pc := 17) (k := 2) h17) ?_
  refine ac (s_lsub (M := M_Mm_signed) (pc := 18) h18) ?_
  refine ac (s_lret (M := M_Mm_signed) (pc := 19) h19 rfl) ?_
  exact ac_nil
theorem e0_Mm_divides : decode prog_10_method_25_code 0 = .ok (.iload_n 1, 1) ∧ decode prog_10_method_25_code 1 = .ok (.iconst 3, 1) ∧ decode prog_10_method_25_code 2 = .ok (.if_icmp .eq 8, 3) ∧ decode prog_10_method_25_code 5 = .ok (.iload_n 1, 1) ∧ decode prog_10_method_25_code 6 = .ok (.iconst 4, 1) ∧ decode prog_10_method_25_code 7 = .ok (.if_icmp .ne 7, 3) ∧ decode prog_10_method_25_code 10 = .ok (.iconst 1, 1) ∧ decode prog_10_method_25_code 11 = .ok (.goto 4, 3) ∧ decode prog_10_method_25_code 14 = .ok (.iconst 0, 1) ∧ decode prog_10_method_25_code 15 = .ok (.ireturn, 1) := by decide +kernel
def T_Mm_divides : TT := [(0, o_ild 1 1), (1, o_push (.int (iI (3))) 2), (2, o_icmp_eq 10 5), (5, o_ild 1 6), (6, o_push (.int (iI (4))) 7), (7, o_icmp_ne 14 10), (10, o_push (.int (iI (1))) 11), (11, o_goto 15), (14, o_push (.int (iI (0))) 15), (15, o_zret)]
theorem k_Mm_divides : ∀ x ∈ T_Mm_divides, SO M_Mm_divides x.1 x.2 := by
  obtain ⟨h0, h1, h2, h5, h6, h7, h10, h11, h14, h15⟩ := e0_Mm_divides
  refine ac (s_ildn (M := M_Mm_divides) (pc := 0) (k := 1) h0) ?_
  refine ac (s_iconst (M := M_Mm_divides) (pc := 1) h1 rfl) ?_
  refine ac (s_icmp_eq (M := M_Mm_divides) (pc := 2) h2 (by decide)) ?_
  refine ac (s_ildn (M := M_Mm_divides) (pc := 5) (k := 1) h5) ?_
  refine ac (s_iconst (M := M_Mm_divides) (pc := 6) h6 rfl) ?_
  refine ac (s_icmp_ne (M := M_Mm_divides) (pc := 7) h7 (by decide)) ?_
  refine ac (s_iconst (M := M_Mm_divides) (pc := 10) h10 rfl) ?_
  refine ac (s_goto (M := M_Mm_divides) (pc := 11) h11 (by decide)) ?_
  refine ac (s_iconst (M := M_Mm_divides) (pc := 14) h14 rfl) ?_
  refine ac (s_zret (M := M_Mm_divides) (pc := 15) h15 rfl) ?_
  exact ac_nil
theorem e0_Mm_worked : decode prog_10_method_24_code 0 = .ok (.iload_n 0, 1) ∧ decode prog_10_method_24_code 1 = .ok (.tableswitch 49 0 3 #[31, 35, 39, 43], 31) ∧ decode prog_10_method_24_code 32 = .ok (.lload_n 1, 1) ∧ decode prog_10_method_24_code 33 = .ok (.lload_n 3, 1) ∧ decode prog_10_method_24_code 34 = .ok (.ladd, 1) ∧ decode prog_10_method_24_code 35 = .ok (.lreturn, 1) ∧ decode prog_10_method_24_code 36 = .ok (.lload_n 1, 1) ∧ decode prog_10_method_24_code 37 = .ok (.lload_n 3, 1) ∧ decode prog_10_method_24_code 38 = .ok (.lsub, 1) ∧ decode prog_10_method_24_code 39 = .ok (.lreturn, 1) ∧ decode prog_10_method_24_code 40 = .ok (.lload_n 1, 1) ∧ decode prog_10_method_24_code 41 = .ok (.lload_n 3, 1) := by decide +kernel
theorem e1_Mm_worked : decode prog_10_method_24_code 42 = .ok (.lmul, 1) ∧ decode prog_10_method_24_code 43 = .ok (.lreturn, 1) ∧ decode prog_10_method_24_code 44 = .ok (.lload_n 1, 1) ∧ decode prog_10_method_24_code 45 = .ok (.lload_n 3, 1) ∧ decode prog_10_method_24_code 46 = .ok (.invokestatic 111, 3) ∧ decode prog_10_method_24_code 49 = .ok (.lreturn, 1) ∧ decode prog_10_method_24_code 50 = .ok (.lload_n 1, 1) ∧ decode prog_10_method_24_code 51 = .ok (.lload_n 3, 1) ∧ decode prog_10_method_24_code 52 = .ok (.lload_n 1, 1) ∧ decode prog_10_method_24_code 53 = .ok (.lload_n 3, 1) ∧ decode prog_10_method_24_code 54 = .ok (.invokestatic 111, 3) ∧ decode prog_10_method_24_code 57 = .ok (.lmul, 1) := by decide +kernel
theorem e2_Mm_worked : decode prog_10_method_24_code 58 = .ok (.lsub, 1) ∧ decode prog_10_method_24_code 59 = .ok (.lreturn, 1) := by decide +kernel
def T_Mm_worked : TT := [(0, o_ild 0 1), (1, o_tsw 0 [32, 36, 40, 44] 50), (32, o_lld 1 33), (33, o_lld 3 34), (34, o_ladd 35), (35, o_lret), (36, o_lld 1 37), (37, o_lld 3 38), (38, o_lsub 39), (39, o_lret), (40, o_lld 1 41), (41, o_lld 3 42), (42, o_lmul 43), (43, o_lret), (44, o_lld 1 45), (45, o_lld 3 46), (46, o_call M_Mm_floored 2 49), (49, o_lret), (50, o_lld 1 51), (51, o_lld 3 52), (52, o_lld 1 53), (53, o_lld 3 54), (54, o_call M_Mm_floored 2 57), (57, o_lmul 58), (58, o_lsub 59), (59, o_lret)]
theorem k_Mm_worked : ∀ x ∈ T_Mm_worked, SO M_Mm_worked x.1 x.2 := by
  obtain ⟨h0, h1, h32, h33, h34, h35, h36, h37, h38, h39, h40, h41⟩ := e0_Mm_worked
  obtain ⟨h42, h43, h44, h45, h46, h49, h50, h51, h52, h53, h54, h57⟩ := e1_Mm_worked
  obtain ⟨h58, h59⟩ := e2_Mm_worked
  refine ac (s_ildn (M := M_Mm_worked) (pc := 0) (k := 0) h0) ?_
  refine ac (s_tsw (M := M_Mm_worked) (pc := 1) h1 (by decide) (by decide) (sw_all _ _ (by decide))) ?_
  refine ac (s_lldn (M := M_Mm_worked) (pc := 32) (k := 1) h32) ?_
  refine ac (s_lldn (M := M_Mm_worked) (pc := 33) (k := 3) h33) ?_
  refine ac (s_ladd (M := M_Mm_worked) (pc := 34) h34) ?_
  refine ac (s_lret (M := M_Mm_worked) (pc := 35) h35 rfl) ?_
  refine ac (s_lldn (M := M_Mm_worked) (pc := 36) (k := 1) h36) ?_
  refine ac (s_lldn (M := M_Mm_worked) (pc := 37) (k := 3) h37) ?_
  refine ac (s_lsub (M := M_Mm_worked) (pc := 38) h38) ?_
  refine ac (s_lret (M := M_Mm_worked) (pc := 39) h39 rfl) ?_
  refine ac (s_lldn (M := M_Mm_worked) (pc := 40) (k := 1) h40) ?_
  refine ac (s_lldn (M := M_Mm_worked) (pc := 41) (k := 3) h41) ?_
  refine ac (s_lmul (M := M_Mm_worked) (pc := 42) h42) ?_
  refine ac (s_lret (M := M_Mm_worked) (pc := 43) h43 rfl) ?_
  refine ac (s_lldn (M := M_Mm_worked) (pc := 44) (k := 1) h44) ?_
  refine ac (s_lldn (M := M_Mm_worked) (pc := 45) (k := 3) h45) ?_
  refine ac (s_callS (M := M_Mm_worked) (pc := 46) (tz_Mm rfl) h46 q_Mm_floored wd2010 wd2011) ?_
  refine ac (s_lret (M := M_Mm_worked) (pc := 49) h49 rfl) ?_
  refine ac (s_lldn (M := M_Mm_worked) (pc := 50) (k := 1) h50) ?_
  refine ac (s_lldn (M := M_Mm_worked) (pc := 51) (k := 3) h51) ?_
  refine ac (s_lldn (M := M_Mm_worked) (pc := 52) (k := 1) h52) ?_
  refine ac (s_lldn (M := M_Mm_worked) (pc := 53) (k := 3) h53) ?_
  refine ac (s_callS (M := M_Mm_worked) (pc := 54) (tz_Mm rfl) h54 q_Mm_floored wd2010 wd2011) ?_
  refine ac (s_lmul (M := M_Mm_worked) (pc := 57) h57) ?_
  refine ac (s_lsub (M := M_Mm_worked) (pc := 58) h58) ?_
  refine ac (s_lret (M := M_Mm_worked) (pc := 59) h59 rfl) ?_
  exact ac_nil
theorem e0_Mm_floored : decode prog_10_method_23_code 0 = .ok (.lload_n 0, 1) ∧ decode prog_10_method_23_code 1 = .ok (.lload_n 2, 1) ∧ decode prog_10_method_23_code 2 = .ok (.ldiv, 1) ∧ decode prog_10_method_23_code 3 = .ok (.lstore 4, 2) ∧ decode prog_10_method_23_code 5 = .ok (.lload_n 0, 1) ∧ decode prog_10_method_23_code 6 = .ok (.lload_n 2, 1) ∧ decode prog_10_method_23_code 7 = .ok (.lrem, 1) ∧ decode prog_10_method_23_code 8 = .ok (.lconst 0, 1) ∧ decode prog_10_method_23_code 9 = .ok (.lcmp, 1) ∧ decode prog_10_method_23_code 10 = .ok (.ifCond .eq 35, 3) ∧ decode prog_10_method_23_code 13 = .ok (.lload_n 0, 1) ∧ decode prog_10_method_23_code 14 = .ok (.lconst 0, 1) := by decide +kernel
theorem e1_Mm_floored : decode prog_10_method_23_code 15 = .ok (.lcmp, 1) ∧ decode prog_10_method_23_code 16 = .ok (.ifCond .ge 7, 3) ∧ decode prog_10_method_23_code 19 = .ok (.iconst 1, 1) ∧ decode prog_10_method_23_code 20 = .ok (.goto 4, 3) ∧ decode prog_10_method_23_code 23 = .ok (.iconst 0, 1) ∧ decode prog_10_method_23_code 24 = .ok (.lload_n 2, 1) ∧ decode prog_10_method_23_code 25 = .ok (.lconst 0, 1) ∧ decode prog_10_method_23_code 26 = .ok (.lcmp, 1) ∧ decode prog_10_method_23_code 27 = .ok (.ifCond .ge 7, 3) ∧ decode prog_10_method_23_code 30 = .ok (.iconst 1, 1) ∧ decode prog_10_method_23_code 31 = .ok (.goto 4, 3) ∧ decode prog_10_method_23_code 34 = .ok (.iconst 0, 1) := by decide +kernel
theorem e2_Mm_floored : decode prog_10_method_23_code 35 = .ok (.if_icmp .eq 10, 3) ∧ decode prog_10_method_23_code 38 = .ok (.lload 4, 2) ∧ decode prog_10_method_23_code 40 = .ok (.lconst 1, 1) ∧ decode prog_10_method_23_code 41 = .ok (.lsub, 1) ∧ decode prog_10_method_23_code 42 = .ok (.goto 5, 3) ∧ decode prog_10_method_23_code 45 = .ok (.lload 4, 2) ∧ decode prog_10_method_23_code 47 = .ok (.lreturn, 1) := by decide +kernel
def T_Mm_floored : TT := [(0, o_lld 0 1), (1, o_lld 2 2), (2, o_ldiv 3), (3, o_lst 4 5), (5, o_lld 0 6), (6, o_lld 2 7), (7, o_lrem 8), (8, o_push (.long (lI 0)) 9), (9, o_lc_eq 45 13), (13, o_lld 0 14), (14, o_push (.long (lI 0)) 15), (15, o_lc_ge 23 19), (19, o_push (.int (iI (1))) 20), (20, o_goto 24), (23, o_push (.int (iI (0))) 24), (24, o_lld 2 25), (25, o_push (.long (lI 0)) 26), (26, o_lc_ge 34 30), (30, o_push (.int (iI (1))) 31), (31, o_goto 35), (34, o_push (.int (iI (0))) 35), (35, o_icmp_eq 45 38), (38, o_lld 4 40), (40, o_push (.long (lI 1)) 41), (41, o_lsub 42), (42, o_goto 47), (45, o_lld 4 47), (47, o_lret)]
theorem k_Mm_floored : ∀ x ∈ T_Mm_floored, SO M_Mm_floored x.1 x.2 := by
  obtain ⟨h0, h1, h2, h3, h5, h6, h7, h8, h9, h10, h13, h14⟩ := e0_Mm_floored
  obtain ⟨h15, h16, h19, h20, h23, h24, h25, h26, h27, h30, h31, h34⟩ := e1_Mm_floored
  obtain ⟨h35, h38, h40, h41, h42, h45, h47⟩ := e2_Mm_floored
  refine ac (s_lldn (M := M_Mm_floored) (pc := 0) (k := 0) h0) ?_
  refine ac (s_lldn (M := M_Mm_floored) (pc := 1) (k := 2) h1) ?_
  refine ac (s_ldiv (M := M_Mm_floored) (pc := 2) h2) ?_
  refine ac (s_lst (M := M_Mm_floored) (pc := 3) h3 (by decide)) ?_
  refine ac (s_lldn (M := M_Mm_floored) (pc := 5) (k := 0) h5) ?_
  refine ac (s_lldn (M := M_Mm_floored) (pc := 6) (k := 2) h6) ?_
  refine ac (s_lrem (M := M_Mm_floored) (pc := 7) h7) ?_
  refine ac (s_lconst (M := M_Mm_floored) (pc := 8) h8 (by decide)) ?_
  refine ac (s_lc_eq (M := M_Mm_floored) (pc := 9) h9 h10 (by decide)) ?_
  refine ac (s_lldn (M := M_Mm_floored) (pc := 13) (k := 0) h13) ?_
  refine ac (s_lconst (M := M_Mm_floored) (pc := 14) h14 (by decide)) ?_
  refine ac (s_lc_ge (M := M_Mm_floored) (pc := 15) h15 h16 (by decide)) ?_
  refine ac (s_iconst (M := M_Mm_floored) (pc := 19) h19 rfl) ?_
  refine ac (s_goto (M := M_Mm_floored) (pc := 20) h20 (by decide)) ?_
  refine ac (s_iconst (M := M_Mm_floored) (pc := 23) h23 rfl) ?_
  refine ac (s_lldn (M := M_Mm_floored) (pc := 24) (k := 2) h24) ?_
  refine ac (s_lconst (M := M_Mm_floored) (pc := 25) h25 (by decide)) ?_
  refine ac (s_lc_ge (M := M_Mm_floored) (pc := 26) h26 h27 (by decide)) ?_
  refine ac (s_iconst (M := M_Mm_floored) (pc := 30) h30 rfl) ?_
  refine ac (s_goto (M := M_Mm_floored) (pc := 31) h31 (by decide)) ?_
  refine ac (s_iconst (M := M_Mm_floored) (pc := 34) h34 rfl) ?_
  refine ac (s_icmp_eq (M := M_Mm_floored) (pc := 35) h35 (by decide)) ?_
  refine ac (s_lld (M := M_Mm_floored) (pc := 38) h38) ?_
  refine ac (s_lconst (M := M_Mm_floored) (pc := 40) h40 (by decide)) ?_
  refine ac (s_lsub (M := M_Mm_floored) (pc := 41) h41) ?_
  refine ac (s_goto (M := M_Mm_floored) (pc := 42) h42 (by decide)) ?_
  refine ac (s_lld (M := M_Mm_floored) (pc := 45) h45) ?_
  refine ac (s_lret (M := M_Mm_floored) (pc := 47) h47 rfl) ?_
  exact ac_nil
theorem e0_Mm_soundNow : decode prog_10_method_22_code 0 = .ok (.aload_n 0, 1) ∧ decode prog_10_method_22_code 1 = .ok (.aload_n 0, 1) ∧ decode prog_10_method_22_code 2 = .ok (.iload_n 1, 1) ∧ decode prog_10_method_22_code 3 = .ok (.invokevirtual 104, 3) ∧ decode prog_10_method_22_code 6 = .ok (.invokevirtual 107, 3) ∧ decode prog_10_method_22_code 9 = .ok (.ireturn, 1) := by decide +kernel
def T_Mm_soundNow : TT := [(0, o_ald 0 1), (1, o_ald 0 2), (2, o_ild 1 3), (3, o_callV M_Mm_numberOf 8 2 6), (6, o_callV M_Mm_fits 8 2 9), (9, o_zret)]
theorem k_Mm_soundNow : ∀ x ∈ T_Mm_soundNow, SO M_Mm_soundNow x.1 x.2 := by
  obtain ⟨h0, h1, h2, h3, h6, h9⟩ := e0_Mm_soundNow
  refine ac (s_aldn (M := M_Mm_soundNow) (pc := 0) (k := 0) h0) ?_
  refine ac (s_aldn (M := M_Mm_soundNow) (pc := 1) (k := 0) h1) ?_
  refine ac (s_ildn (M := M_Mm_soundNow) (pc := 2) (k := 1) h2) ?_
  refine ac (s_callV (M := M_Mm_soundNow) (pc := 3) (tz_Mm rfl) h3 q_Mm_numberOf wd1992 wd1994 wd69 rfl (T := TX8) (N := 29) rfl) ?_
  refine ac (s_callV (M := M_Mm_soundNow) (pc := 6) (tz_Mm rfl) h6 q_Mm_fits wd2017 wd2019 wd73 rfl (T := TX8) (N := 29) rfl) ?_
  refine ac (s_zret (M := M_Mm_soundNow) (pc := 9) h9 rfl) ?_
  exact ac_nil
theorem e0_Mm_fits : decode prog_10_method_21_code 0 = .ok (.lload_n 1, 1) ∧ decode prog_10_method_21_code 1 = .ok (.aload_n 0, 1) ∧ decode prog_10_method_21_code 2 = .ok (.invokevirtual 101, 3) ∧ decode prog_10_method_21_code 5 = .ok (.lneg, 1) ∧ decode prog_10_method_21_code 6 = .ok (.aload_n 0, 1) ∧ decode prog_10_method_21_code 7 = .ok (.invokevirtual 101, 3) ∧ decode prog_10_method_21_code 10 = .ok (.invokestatic 57, 3) ∧ decode prog_10_method_21_code 13 = .ok (.ireturn, 1) := by decide +kernel
def T_Mm_fits : TT := [(0, o_lld 1 1), (1, o_ald 0 2), (2, o_callV M_Mm_half 8 1 5), (5, o_lneg 6), (6, o_ald 0 7), (7, o_callV M_Mm_half 8 1 10), (10, o_call M_Mm_isIn 3 13), (13, o_zret)]
theorem k_Mm_fits : ∀ x ∈ T_Mm_fits, SO M_Mm_fits x.1 x.2 := by
  obtain ⟨h0, h1, h2, h5, h6, h7, h10, h13⟩ := e0_Mm_fits
  refine ac (s_lldn (M := M_Mm_fits) (pc := 0) (k := 1) h0) ?_
  refine ac (s_aldn (M := M_Mm_fits) (pc := 1) (k := 0) h1) ?_
  refine ac (s_callV (M := M_Mm_fits) (pc := 2) (tz_Mm rfl) h2 q_Mm_half wd1906 wd1908 wd50 rfl (T := TX8) (N := 29) rfl) ?_
  refine ac (s_lneg (M := M_Mm_fits) (pc := 5) h5) ?_
  refine ac (s_aldn (M := M_Mm_fits) (pc := 6) (k := 0) h6) ?_
  refine ac (s_callV (M := M_Mm_fits) (pc := 7) (tz_Mm rfl) h7 q_Mm_half wd1906 wd1908 wd50 rfl (T := TX8) (N := 29) rfl) ?_
  refine ac (s_callS (M := M_Mm_fits) (pc := 10) (tz_Mm rfl) h10 q_Mm_isIn wd1789 wd1790) ?_
  refine ac (s_zret (M := M_Mm_fits) (pc := 13) h13 rfl) ?_
  exact ac_nil
theorem e0_Mm_refuses : decode prog_10_method_29_code 0 = .ok (.aload_n 0, 1) ∧ decode prog_10_method_29_code 1 = .ok (.iload_n 1, 1) ∧ decode prog_10_method_29_code 2 = .ok (.invokevirtual 136, 3) ∧ decode prog_10_method_29_code 5 = .ok (.iload_n 1, 1) ∧ decode prog_10_method_29_code 6 = .ok (.ireturn, 1) := by decide +kernel
def T_Mm_refuses : TT := [(0, o_ald 0 1), (1, o_ild 1 2), (2, o_callV M_Mm_counts 8 2 5), (5, o_ild 1 6), (6, o_iret)]
theorem k_Mm_refuses : ∀ x ∈ T_Mm_refuses, SO M_Mm_refuses x.1 x.2 := by
  obtain ⟨h0, h1, h2, h5, h6⟩ := e0_Mm_refuses
  refine ac (s_aldn (M := M_Mm_refuses) (pc := 0) (k := 0) h0) ?_
  refine ac (s_ildn (M := M_Mm_refuses) (pc := 1) (k := 1) h1) ?_
  refine ac (s_callV (M := M_Mm_refuses) (pc := 2) (tz_Mm rfl) h2 q_Mm_counts wd2025 wd2027 wd75 rfl (T := TX8) (N := 29) rfl) ?_
  refine ac (s_ildn (M := M_Mm_refuses) (pc := 5) (k := 1) h5) ?_
  refine ac (s_iret (M := M_Mm_refuses) (pc := 6) h6 rfl) ?_
  exact ac_nil
theorem e0_Mm_counts : decode prog_10_method_28_code 0 = .ok (.aload_n 0, 1) ∧ decode prog_10_method_28_code 1 = .ok (.getfield 13, 3) ∧ decode prog_10_method_28_code 4 = .ok (.iconst 3, 1) ∧ decode prog_10_method_28_code 5 = .ok (.iload_n 1, 1) ∧ decode prog_10_method_28_code 6 = .ok (.iadd, 1) ∧ decode prog_10_method_28_code 7 = .ok (.aload_n 0, 1) ∧ decode prog_10_method_28_code 8 = .ok (.getfield 13, 3) ∧ decode prog_10_method_28_code 11 = .ok (.iconst 3, 1) ∧ decode prog_10_method_28_code 12 = .ok (.iload_n 1, 1) ∧ decode prog_10_method_28_code 13 = .ok (.iadd, 1) ∧ decode prog_10_method_28_code 14 = .ok (.iaload, 1) ∧ decode prog_10_method_28_code 15 = .ok (.iconst 1, 1) := by decide +kernel
theorem e1_Mm_counts : decode prog_10_method_28_code 16 = .ok (.iadd, 1) ∧ decode prog_10_method_28_code 17 = .ok (.iastore, 1) ∧ decode prog_10_method_28_code 18 = .ok (.return_, 1) := by decide +kernel
def T_Mm_counts : TT := [(0, o_ald 0 1), (1, o_get 8 1 4), (4, o_push (.int (iI (3))) 5), (5, o_ild 1 6), (6, o_iadd 7), (7, o_ald 0 8), (8, o_get 8 1 11), (11, o_push (.int (iI (3))) 12), (12, o_ild 1 13), (13, o_iadd 14), (14, o_iald 15), (15, o_push (.int (iI (1))) 16), (16, o_iadd 17), (17, o_iast 18), (18, o_vret)]
theorem k_Mm_counts : ∀ x ∈ T_Mm_counts, SO M_Mm_counts x.1 x.2 := by
  obtain ⟨h0, h1, h4, h5, h6, h7, h8, h11, h12, h13, h14, h15⟩ := e0_Mm_counts
  obtain ⟨h16, h17, h18⟩ := e1_Mm_counts
  refine ac (s_aldn (M := M_Mm_counts) (pc := 0) (k := 0) h0) ?_
  refine ac (s_get (M := M_Mm_counts) (pc := 1) (T := TX8) (N := 29) h1 rfl in_X8 (by decide) wd1690) ?_
  refine ac (s_iconst (M := M_Mm_counts) (pc := 4) h4 rfl) ?_
  refine ac (s_ildn (M := M_Mm_counts) (pc := 5) (k := 1) h5) ?_
  refine ac (s_iadd (M := M_Mm_counts) (pc := 6) h6) ?_
  refine ac (s_aldn (M := M_Mm_counts) (pc := 7) (k := 0) h7) ?_
  refine ac (s_get (M := M_Mm_counts) (pc := 8) (T := TX8) (N := 29) h8 rfl in_X8 (by decide) wd1690) ?_
  refine ac (s_iconst (M := M_Mm_counts) (pc := 11) h11 rfl) ?_
  refine ac (s_ildn (M := M_Mm_counts) (pc := 12) (k := 1) h12) ?_
  refine ac (s_iadd (M := M_Mm_counts) (pc := 13) h13) ?_
  refine ac (s_iald (M := M_Mm_counts) (pc := 14) h14) ?_
  refine ac (s_iconst (M := M_Mm_counts) (pc := 15) h15 rfl) ?_
  refine ac (s_iadd (M := M_Mm_counts) (pc := 16) h16) ?_
  refine ac (s_iast (M := M_Mm_counts) (pc := 17) h17) ?_
  refine ac (s_vret (M := M_Mm_counts) (pc := 18) h18 rfl) ?_
  exact ac_nil
theorem e0_Mm_acts : decode prog_10_method_30_code 0 = .ok (.aload_n 0, 1) ∧ decode prog_10_method_30_code 1 = .ok (.iconst 0, 1) ∧ decode prog_10_method_30_code 2 = .ok (.invokevirtual 136, 3) ∧ decode prog_10_method_30_code 5 = .ok (.aload_n 0, 1) ∧ decode prog_10_method_30_code 6 = .ok (.iload_n 1, 1) ∧ decode prog_10_method_30_code 7 = .ok (.invokevirtual 126, 3) ∧ decode prog_10_method_30_code 10 = .ok (.ifCond .ne 9, 3) ∧ decode prog_10_method_30_code 13 = .ok (.aload_n 0, 1) ∧ decode prog_10_method_30_code 14 = .ok (.bipush 6, 2) ∧ decode prog_10_method_30_code 16 = .ok (.invokevirtual 136, 3) ∧ decode prog_10_method_30_code 19 = .ok (.iconst 0, 1) ∧ decode prog_10_method_30_code 20 = .ok (.ireturn, 1) := by decide +kernel
def T_Mm_acts : TT := [(0, o_ald 0 1), (1, o_push (.int (iI (0))) 2), (2, o_callV M_Mm_counts 8 2 5), (5, o_ald 0 6), (6, o_ild 1 7), (7, o_callV M_Mm_soundNow 8 2 10), (10, o_if_ne 19 13), (13, o_ald 0 14), (14, o_push (.int (iI (6))) 16), (16, o_callV M_Mm_counts 8 2 19), (19, o_push (.int (iI (0))) 20), (20, o_iret)]
theorem k_Mm_acts : ∀ x ∈ T_Mm_acts, SO M_Mm_acts x.1 x.2 := by
  obtain ⟨h0, h1, h2, h5, h6, h7, h10, h13, h14, h16, h19, h20⟩ := e0_Mm_acts
  refine ac (s_aldn (M := M_Mm_acts) (pc := 0) (k := 0) h0) ?_
  refine ac (s_iconst (M := M_Mm_acts) (pc := 1) h1 rfl) ?_
  refine ac (s_callV (M := M_Mm_acts) (pc := 2) (tz_Mm rfl) h2 q_Mm_counts wd2025 wd2027 wd75 rfl (T := TX8) (N := 29) rfl) ?_
  refine ac (s_aldn (M := M_Mm_acts) (pc := 5) (k := 0) h5) ?_
  refine ac (s_ildn (M := M_Mm_acts) (pc := 6) (k := 1) h6) ?_
  refine ac (s_callV (M := M_Mm_acts) (pc := 7) (tz_Mm rfl) h7 q_Mm_soundNow wd2013 wd2015 wd72 rfl (T := TX8) (N := 29) rfl) ?_
  refine ac (s_if_ne (M := M_Mm_acts) (pc := 10) h10 (by decide)) ?_
  refine ac (s_aldn (M := M_Mm_acts) (pc := 13) (k := 0) h13) ?_
  refine ac (s_bipush (M := M_Mm_acts) (pc := 14) h14 (by decide)) ?_
  refine ac (s_callV (M := M_Mm_acts) (pc := 16) (tz_Mm rfl) h16 q_Mm_counts wd2025 wd2027 wd75 rfl (T := TX8) (N := 29) rfl) ?_
  refine ac (s_iconst (M := M_Mm_acts) (pc := 19) h19 rfl) ?_
  refine ac (s_iret (M := M_Mm_acts) (pc := 20) h20 rfl) ?_
  exact ac_nil
theorem e0_Mm_scales : decode prog_10_method_32_code 0 = .ok (.aload_n 0, 1) ∧ decode prog_10_method_32_code 1 = .ok (.bipush 8, 2) ∧ decode prog_10_method_32_code 3 = .ok (.aload_n 0, 1) ∧ decode prog_10_method_32_code 4 = .ok (.iload_n 1, 1) ∧ decode prog_10_method_32_code 5 = .ok (.invokevirtual 104, 3) ∧ decode prog_10_method_32_code 8 = .ok (.aload_n 0, 1) ∧ decode prog_10_method_32_code 9 = .ok (.iload_n 2, 1) ∧ decode prog_10_method_32_code 10 = .ok (.invokevirtual 65, 3) ∧ decode prog_10_method_32_code 13 = .ok (.i2l, 1) ∧ decode prog_10_method_32_code 14 = .ok (.invokestatic 111, 3) ∧ decode prog_10_method_32_code 17 = .ok (.invokevirtual 122, 3) ∧ decode prog_10_method_32_code 20 = .ok (.aload_n 0, 1) := by decide +kernel
theorem e1_Mm_scales : decode prog_10_method_32_code 21 = .ok (.iload_n 1, 1) ∧ decode prog_10_method_32_code 22 = .ok (.aload_n 0, 1) ∧ decode prog_10_method_32_code 23 = .ok (.getfield 13, 3) ∧ decode prog_10_method_32_code 26 = .ok (.iconst 2, 1) ∧ decode prog_10_method_32_code 27 = .ok (.iaload, 1) ∧ decode prog_10_method_32_code 28 = .ok (.iconst 1, 1) ∧ decode prog_10_method_32_code 29 = .ok (.if_icmp .ne 16, 3) ∧ decode prog_10_method_32_code 32 = .ok (.aload_n 0, 1) ∧ decode prog_10_method_32_code 33 = .ok (.bipush 8, 2) ∧ decode prog_10_method_32_code 35 = .ok (.invokevirtual 126, 3) ∧ decode prog_10_method_32_code 38 = .ok (.ifCond .ne 7, 3) ∧ decode prog_10_method_32_code 41 = .ok (.iconst 2, 1) := by decide +kernel
theorem e2_Mm_scales : decode prog_10_method_32_code 42 = .ok (.goto 4, 3) ∧ decode prog_10_method_32_code 45 = .ok (.iconst 0, 1) ∧ decode prog_10_method_32_code 46 = .ok (.invokevirtual 150, 3) ∧ decode prog_10_method_32_code 49 = .ok (.ireturn, 1) := by decide +kernel
def T_Mm_scales : TT := [(0, o_ald 0 1), (1, o_push (.int (iI (8))) 3), (3, o_ald 0 4), (4, o_ild 1 5), (5, o_callV M_Mm_numberOf 8 2 8), (8, o_ald 0 9), (9, o_ild 2 10), (10, o_callV M_Mm_mod 8 2 13), (13, o_i2l 14), (14, o_call M_Mm_floored 2 17), (17, o_callV M_Mm_tells 8 3 20), (20, o_ald 0 21), (21, o_ild 1 22), (22, o_ald 0 23), (23, o_get 8 1 26), (26, o_push (.int (iI (2))) 27), (27, o_iald 28), (28, o_push (.int (iI (1))) 29), (29, o_icmp_ne 45 32), (32, o_ald 0 33), (33, o_push (.int (iI (8))) 35), (35, o_callV M_Mm_soundNow 8 2 38), (38, o_if_ne 45 41), (41, o_push (.int (iI (2))) 42), (42, o_goto 46), (45, o_push (.int (iI (0))) 46), (46, o_callV M_Mm_laysInto 8 3 49), (49, o_iret)]
theorem k_Mm_scales : ∀ x ∈ T_Mm_scales, SO M_Mm_scales x.1 x.2 := by
  obtain ⟨h0, h1, h3, h4, h5, h8, h9, h10, h13, h14, h17, h20⟩ := e0_Mm_scales
  obtain ⟨h21, h22, h23, h26, h27, h28, h29, h32, h33, h35, h38, h41⟩ := e1_Mm_scales
  obtain ⟨h42, h45, h46, h49⟩ := e2_Mm_scales
  refine ac (s_aldn (M := M_Mm_scales) (pc := 0) (k := 0) h0) ?_
  refine ac (s_bipush (M := M_Mm_scales) (pc := 1) h1 (by decide)) ?_
  refine ac (s_aldn (M := M_Mm_scales) (pc := 3) (k := 0) h3) ?_
  refine ac (s_ildn (M := M_Mm_scales) (pc := 4) (k := 1) h4) ?_
  refine ac (s_callV (M := M_Mm_scales) (pc := 5) (tz_Mm rfl) h5 q_Mm_numberOf wd1992 wd1994 wd69 rfl (T := TX8) (N := 29) rfl) ?_
  refine ac (s_aldn (M := M_Mm_scales) (pc := 8) (k := 0) h8) ?_
  refine ac (s_ildn (M := M_Mm_scales) (pc := 9) (k := 2) h9) ?_
  refine ac (s_callV (M := M_Mm_scales) (pc := 10) (tz_Mm rfl) h10 q_Mm_mod wd1866 wd1868 wd42 rfl (T := TX8) (N := 29) rfl) ?_
  refine ac (s_i2l (M := M_Mm_scales) (pc := 13) h13) ?_
  refine ac (s_callS (M := M_Mm_scales) (pc := 14) (tz_Mm rfl) h14 q_Mm_floored wd2010 wd2011) ?_
  refine ac (s_callV (M := M_Mm_scales) (pc := 17) (tz_Mm rfl) h17 q_Mm_tells wd1914 wd1916 wd52 rfl (T := TX8) (N := 29) rfl) ?_
  refine ac (s_aldn (M := M_Mm_scales) (pc := 20) (k := 0) h20) ?_
  refine ac (s_ildn (M := M_Mm_scales) (pc := 21) (k := 1) h21) ?_
  refine ac (s_aldn (M := M_Mm_scales) (pc := 22) (k := 0) h22) ?_
  refine ac (s_get (M := M_Mm_scales) (pc := 23) (T := TX8) (N := 29) h23 rfl in_X8 (by decide) wd1690) ?_
  refine ac (s_iconst (M := M_Mm_scales) (pc := 26) h26 rfl) ?_
  refine ac (s_iald (M := M_Mm_scales) (pc := 27) h27) ?_
  refine ac (s_iconst (M := M_Mm_scales) (pc := 28) h28 rfl) ?_
  refine ac (s_icmp_ne (M := M_Mm_scales) (pc := 29) h29 (by decide)) ?_
  refine ac (s_aldn (M := M_Mm_scales) (pc := 32) (k := 0) h32) ?_
  refine ac (s_bipush (M := M_Mm_scales) (pc := 33) h33 (by decide)) ?_
  refine ac (s_callV (M := M_Mm_scales) (pc := 35) (tz_Mm rfl) h35 q_Mm_soundNow wd2013 wd2015 wd72 rfl (T := TX8) (N := 29) rfl) ?_
  refine ac (s_if_ne (M := M_Mm_scales) (pc := 38) h38 (by decide)) ?_
  refine ac (s_iconst (M := M_Mm_scales) (pc := 41) h41 rfl) ?_
  refine ac (s_goto (M := M_Mm_scales) (pc := 42) h42 (by decide)) ?_
  refine ac (s_iconst (M := M_Mm_scales) (pc := 45) h45 rfl) ?_
  refine ac (s_callV (M := M_Mm_scales) (pc := 46) (tz_Mm rfl) h46 q_Mm_laysInto wd2037 wd2039 wd78 rfl (T := TX8) (N := 29) rfl) ?_
  refine ac (s_iret (M := M_Mm_scales) (pc := 49) h49 rfl) ?_
  exact ac_nil
theorem e0_Mm_laysInto : decode prog_10_method_31_code 0 = .ok (.iload_n 2, 1) ∧ decode prog_10_method_31_code 1 = .ok (.ifCond .eq 9, 3) ∧ decode prog_10_method_31_code 4 = .ok (.aload_n 0, 1) ∧ decode prog_10_method_31_code 5 = .ok (.iload_n 2, 1) ∧ decode prog_10_method_31_code 6 = .ok (.invokevirtual 140, 3) ∧ decode prog_10_method_31_code 9 = .ok (.ireturn, 1) ∧ decode prog_10_method_31_code 10 = .ok (.aload_n 0, 1) ∧ decode prog_10_method_31_code 11 = .ok (.bipush 8, 2) ∧ decode prog_10_method_31_code 13 = .ok (.iload_n 1, 1) ∧ decode prog_10_method_31_code 14 = .ok (.invokevirtual 143, 3) ∧ decode prog_10_method_31_code 17 = .ok (.aload_n 0, 1) ∧ decode prog_10_method_31_code 18 = .ok (.iload_n 1, 1) := by decide +kernel
theorem e1_Mm_laysInto : decode prog_10_method_31_code 19 = .ok (.invokevirtual 147, 3) ∧ decode prog_10_method_31_code 22 = .ok (.ireturn, 1) := by decide +kernel
def T_Mm_laysInto : TT := [(0, o_ild 2 1), (1, o_if_eq 10 4), (4, o_ald 0 5), (5, o_ild 2 6), (6, o_callV M_Mm_refuses 8 2 9), (9, o_iret), (10, o_ald 0 11), (11, o_push (.int (iI (8))) 13), (13, o_ild 1 14), (14, o_callV M_Mm_copiesRow 8 3 17), (17, o_ald 0 18), (18, o_ild 1 19), (19, o_callV M_Mm_acts 8 2 22), (22, o_iret)]
theorem k_Mm_laysInto : ∀ x ∈ T_Mm_laysInto, SO M_Mm_laysInto x.1 x.2 := by
  obtain ⟨h0, h1, h4, h5, h6, h9, h10, h11, h13, h14, h17, h18⟩ := e0_Mm_laysInto
  obtain ⟨h19, h22⟩ := e1_Mm_laysInto
  refine ac (s_ildn (M := M_Mm_laysInto) (pc := 0) (k := 2) h0) ?_
  refine ac (s_if_eq (M := M_Mm_laysInto) (pc := 1) h1 (by decide)) ?_
  refine ac (s_aldn (M := M_Mm_laysInto) (pc := 4) (k := 0) h4) ?_
  refine ac (s_ildn (M := M_Mm_laysInto) (pc := 5) (k := 2) h5) ?_
  refine ac (s_callV (M := M_Mm_laysInto) (pc := 6) (tz_Mm rfl) h6 q_Mm_refuses wd2021 wd2023 wd74 rfl (T := TX8) (N := 29) rfl) ?_
  refine ac (s_iret (M := M_Mm_laysInto) (pc := 9) h9 rfl) ?_
  refine ac (s_aldn (M := M_Mm_laysInto) (pc := 10) (k := 0) h10) ?_
  refine ac (s_bipush (M := M_Mm_laysInto) (pc := 11) h11 (by decide)) ?_
  refine ac (s_ildn (M := M_Mm_laysInto) (pc := 13) (k := 1) h13) ?_
  refine ac (s_callV (M := M_Mm_laysInto) (pc := 14) (tz_Mm rfl) h14 q_Mm_copiesRow wd1980 wd1982 wd66 rfl (T := TX8) (N := 29) rfl) ?_
  refine ac (s_aldn (M := M_Mm_laysInto) (pc := 17) (k := 0) h17) ?_
  refine ac (s_ildn (M := M_Mm_laysInto) (pc := 18) (k := 1) h18) ?_
  refine ac (s_callV (M := M_Mm_laysInto) (pc := 19) (tz_Mm rfl) h19 q_Mm_acts wd2029 wd2031 wd76 rfl (T := TX8) (N := 29) rfl) ?_
  refine ac (s_iret (M := M_Mm_laysInto) (pc := 22) h22 rfl) ?_
  exact ac_nil
theorem e0_Mm_mendsNow : decode prog_10_method_35_code 0 = .ok (.aload_n 0, 1) ∧ decode prog_10_method_35_code 1 = .ok (.iload_n 1, 1) ∧ decode prog_10_method_35_code 2 = .ok (.invokevirtual 126, 3) ∧ decode prog_10_method_35_code 5 = .ok (.ifCond .eq 9, 3) ∧ decode prog_10_method_35_code 8 = .ok (.aload_n 0, 1) ∧ decode prog_10_method_35_code 9 = .ok (.iconst 3, 1) ∧ decode prog_10_method_35_code 10 = .ok (.invokevirtual 140, 3) ∧ decode prog_10_method_35_code 13 = .ok (.ireturn, 1) ∧ decode prog_10_method_35_code 14 = .ok (.iconst 0, 1) ∧ decode prog_10_method_35_code 15 = .ok (.istore_n 2, 1) ∧ decode prog_10_method_35_code 16 = .ok (.iload_n 2, 1) ∧ decode prog_10_method_35_code 17 = .ok (.aload_n 0, 1) := by decide +kernel
theorem e1_Mm_mendsNow : decode prog_10_method_35_code 18 = .ok (.invokevirtual 61, 3) ∧ decode prog_10_method_35_code 21 = .ok (.if_icmp .ge 37, 3) ∧ decode prog_10_method_35_code 24 = .ok (.aload_n 0, 1) ∧ decode prog_10_method_35_code 25 = .ok (.iload_n 1, 1) ∧ decode prog_10_method_35_code 26 = .ok (.iload_n 2, 1) ∧ decode prog_10_method_35_code 27 = .ok (.invokevirtual 157, 3) ∧ decode prog_10_method_35_code 30 = .ok (.istore_n 3, 1) ∧ decode prog_10_method_35_code 31 = .ok (.iload_n 3, 1) ∧ decode prog_10_method_35_code 32 = .ok (.iconst (-1), 1) ∧ decode prog_10_method_35_code 33 = .ok (.if_icmp .ne 6, 3) ∧ decode prog_10_method_35_code 36 = .ok (.goto 16, 3) ∧ decode prog_10_method_35_code 39 = .ok (.aload_n 0, 1) := by decide +kernel
theorem e2_Mm_mendsNow : decode prog_10_method_35_code 40 = .ok (.iload_n 1, 1) ∧ decode prog_10_method_35_code 41 = .ok (.iload_n 2, 1) ∧ decode prog_10_method_35_code 42 = .ok (.iload_n 3, 1) ∧ decode prog_10_method_35_code 43 = .ok (.invokevirtual 82, 3) ∧ decode prog_10_method_35_code 46 = .ok (.aload_n 0, 1) ∧ decode prog_10_method_35_code 47 = .ok (.iload_n 1, 1) ∧ decode prog_10_method_35_code 48 = .ok (.invokevirtual 147, 3) ∧ decode prog_10_method_35_code 51 = .ok (.ireturn, 1) ∧ decode prog_10_method_35_code 52 = .ok (.iinc 2 1, 3) ∧ decode prog_10_method_35_code 55 = .ok (.goto (-39), 3) ∧ decode prog_10_method_35_code 58 = .ok (.aload_n 0, 1) ∧ decode prog_10_method_35_code 59 = .ok (.iconst 3, 1) := by decide +kernel
theorem e3_Mm_mendsNow : decode prog_10_method_35_code 60 = .ok (.invokevirtual 140, 3) ∧ decode prog_10_method_35_code 63 = .ok (.ireturn, 1) := by decide +kernel
def T_Mm_mendsNow : TT := [(0, o_ald 0 1), (1, o_ild 1 2), (2, o_callV M_Mm_soundNow 8 2 5), (5, o_if_eq 14 8), (8, o_ald 0 9), (9, o_push (.int (iI (3))) 10), (10, o_callV M_Mm_refuses 8 2 13), (13, o_iret), (14, o_push (.int (iI (0))) 15), (15, o_ist 2 16), (16, o_ild 2 17), (17, o_ald 0 18), (18, o_callV M_Mm_many 8 1 21), (21, o_icmp_ge 58 24), (24, o_ald 0 25), (25, o_ild 1 26), (26, o_ild 2 27), (27, o_callV M_Mm_mendingRest 8 3 30), (30, o_ist 3 31), (31, o_ild 3 32), (32, o_push (.int (iI (-1))) 33), (33, o_icmp_ne 39 36), (36, o_goto 52), (39, o_ald 0 40), (40, o_ild 1 41), (41, o_ild 2 42), (42, o_ild 3 43), (43, o_callV M_Mm_puts 8 4 46), (46, o_ald 0 47), (47, o_ild 1 48), (48, o_callV M_Mm_acts 8 2 51), (51, o_iret), (52, o_iinc 2 (iI (1)) 55), (55, o_goto 16), (58, o_ald 0 59), (59, o_push (.int (iI (3))) 60), (60, o_callV M_Mm_refuses 8 2 63), (63, o_iret)]
theorem k_Mm_mendsNow : ∀ x ∈ T_Mm_mendsNow, SO M_Mm_mendsNow x.1 x.2 := by
  obtain ⟨h0, h1, h2, h5, h8, h9, h10, h13, h14, h15, h16, h17⟩ := e0_Mm_mendsNow
  obtain ⟨h18, h21, h24, h25, h26, h27, h30, h31, h32, h33, h36, h39⟩ := e1_Mm_mendsNow
  obtain ⟨h40, h41, h42, h43, h46, h47, h48, h51, h52, h55, h58, h59⟩ := e2_Mm_mendsNow
  obtain ⟨h60, h63⟩ := e3_Mm_mendsNow
  refine ac (s_aldn (M := M_Mm_mendsNow) (pc := 0) (k := 0) h0) ?_
  refine ac (s_ildn (M := M_Mm_mendsNow) (pc := 1) (k := 1) h1) ?_
  refine ac (s_callV (M := M_Mm_mendsNow) (pc := 2) (tz_Mm rfl) h2 q_Mm_soundNow wd2013 wd2015 wd72 rfl (T := TX8) (N := 29) rfl) ?_
  refine ac (s_if_eq (M := M_Mm_mendsNow) (pc := 5) h5 (by decide)) ?_
  refine ac (s_aldn (M := M_Mm_mendsNow) (pc := 8) (k := 0) h8) ?_
  refine ac (s_iconst (M := M_Mm_mendsNow) (pc := 9) h9 rfl) ?_
  refine ac (s_callV (M := M_Mm_mendsNow) (pc := 10) (tz_Mm rfl) h10 q_Mm_refuses wd2021 wd2023 wd74 rfl (T := TX8) (N := 29) rfl) ?_
  refine ac (s_iret (M := M_Mm_mendsNow) (pc := 13) h13 rfl) ?_
  refine ac (s_iconst (M := M_Mm_mendsNow) (pc := 14) h14 rfl) ?_
  refine ac (s_istn (M := M_Mm_mendsNow) (pc := 15) (k := 2) h15 (by decide)) ?_
  refine ac (s_ildn (M := M_Mm_mendsNow) (pc := 16) (k := 2) h16) ?_
  refine ac (s_aldn (M := M_Mm_mendsNow) (pc := 17) (k := 0) h17) ?_
  refine ac (s_callV (M := M_Mm_mendsNow) (pc := 18) (tz_Mm rfl) h18 q_Mm_many wd1849 wd1851 wd38 rfl (T := TX8) (N := 29) rfl) ?_
  refine ac (s_icmp_ge (M := M_Mm_mendsNow) (pc := 21) h21 (by decide)) ?_
  refine ac (s_aldn (M := M_Mm_mendsNow) (pc := 24) (k := 0) h24) ?_
  refine ac (s_ildn (M := M_Mm_mendsNow) (pc := 25) (k := 1) h25) ?_
  refine ac (s_ildn (M := M_Mm_mendsNow) (pc := 26) (k := 2) h26) ?_
  refine ac (s_callV (M := M_Mm_mendsNow) (pc := 27) (tz_Mm rfl) h27 q_Mm_mendingRest wd2045 wd2047 wd80 rfl (T := TX8) (N := 29) rfl) ?_
  refine ac (s_istn (M := M_Mm_mendsNow) (pc := 30) (k := 3) h30 (by decide)) ?_
  refine ac (s_ildn (M := M_Mm_mendsNow) (pc := 31) (k := 3) h31) ?_
  refine ac (s_iconst (M := M_Mm_mendsNow) (pc := 32) h32 rfl) ?_
  refine ac (s_icmp_ne (M := M_Mm_mendsNow) (pc := 33) h33 (by decide)) ?_
  refine ac (s_goto (M := M_Mm_mendsNow) (pc := 36) h36 (by decide)) ?_
  refine ac (s_aldn (M := M_Mm_mendsNow) (pc := 39) (k := 0) h39) ?_
  refine ac (s_ildn (M := M_Mm_mendsNow) (pc := 40) (k := 1) h40) ?_
  refine ac (s_ildn (M := M_Mm_mendsNow) (pc := 41) (k := 2) h41) ?_
  refine ac (s_ildn (M := M_Mm_mendsNow) (pc := 42) (k := 3) h42) ?_
  refine ac (s_callV (M := M_Mm_mendsNow) (pc := 43) (tz_Mm rfl) h43 q_Mm_puts wd1921 wd1923 wd53 rfl (T := TX8) (N := 29) rfl) ?_
  refine ac (s_aldn (M := M_Mm_mendsNow) (pc := 46) (k := 0) h46) ?_
  refine ac (s_ildn (M := M_Mm_mendsNow) (pc := 47) (k := 1) h47) ?_
  refine ac (s_callV (M := M_Mm_mendsNow) (pc := 48) (tz_Mm rfl) h48 q_Mm_acts wd2029 wd2031 wd76 rfl (T := TX8) (N := 29) rfl) ?_
  refine ac (s_iret (M := M_Mm_mendsNow) (pc := 51) h51 rfl) ?_
  refine ac (s_iinc (M := M_Mm_mendsNow) (pc := 52) h52 rfl (by decide)) ?_
  refine ac (s_goto (M := M_Mm_mendsNow) (pc := 55) h55 (by decide)) ?_
  refine ac (s_aldn (M := M_Mm_mendsNow) (pc := 58) (k := 0) h58) ?_
  refine ac (s_iconst (M := M_Mm_mendsNow) (pc := 59) h59 rfl) ?_
  refine ac (s_callV (M := M_Mm_mendsNow) (pc := 60) (tz_Mm rfl) h60 q_Mm_refuses wd2021 wd2023 wd74 rfl (T := TX8) (N := 29) rfl) ?_
  refine ac (s_iret (M := M_Mm_mendsNow) (pc := 63) h63 rfl) ?_
  exact ac_nil
theorem e0_Mm_mendingRest : decode prog_10_method_34_code 0 = .ok (.iconst 0, 1) ∧ decode prog_10_method_34_code 1 = .ok (.istore_n 3, 1) ∧ decode prog_10_method_34_code 2 = .ok (.iload_n 3, 1) ∧ decode prog_10_method_34_code 3 = .ok (.aload_n 0, 1) ∧ decode prog_10_method_34_code 4 = .ok (.iload_n 2, 1) ∧ decode prog_10_method_34_code 5 = .ok (.invokevirtual 65, 3) ∧ decode prog_10_method_34_code 8 = .ok (.if_icmp .ge 31, 3) ∧ decode prog_10_method_34_code 11 = .ok (.iload_n 3, 1) ∧ decode prog_10_method_34_code 12 = .ok (.aload_n 0, 1) ∧ decode prog_10_method_34_code 13 = .ok (.iload_n 1, 1) ∧ decode prog_10_method_34_code 14 = .ok (.iload_n 2, 1) ∧ decode prog_10_method_34_code 15 = .ok (.invokevirtual 86, 3) := by decide +kernel
theorem e1_Mm_mendingRest : decode prog_10_method_34_code 18 = .ok (.if_icmp .eq 15, 3) ∧ decode prog_10_method_34_code 21 = .ok (.aload_n 0, 1) ∧ decode prog_10_method_34_code 22 = .ok (.iload_n 1, 1) ∧ decode prog_10_method_34_code 23 = .ok (.iload_n 2, 1) ∧ decode prog_10_method_34_code 24 = .ok (.iload_n 3, 1) ∧ decode prog_10_method_34_code 25 = .ok (.invokevirtual 153, 3) ∧ decode prog_10_method_34_code 28 = .ok (.ifCond .eq 5, 3) ∧ decode prog_10_method_34_code 31 = .ok (.iload_n 3, 1) ∧ decode prog_10_method_34_code 32 = .ok (.ireturn, 1) ∧ decode prog_10_method_34_code 33 = .ok (.iinc 3 1, 3) ∧ decode prog_10_method_34_code 36 = .ok (.goto (-34), 3) ∧ decode prog_10_method_34_code 39 = .ok (.iconst (-1), 1) := by decide +kernel
theorem e2_Mm_mendingRest : decode prog_10_method_34_code 40 = .ok (.ireturn, 1) := by decide +kernel
def T_Mm_mendingRest : TT := [(0, o_push (.int (iI (0))) 1), (1, o_ist 3 2), (2, o_ild 3 3), (3, o_ald 0 4), (4, o_ild 2 5), (5, o_callV M_Mm_mod 8 2 8), (8, o_icmp_ge 39 11), (11, o_ild 3 12), (12, o_ald 0 13), (13, o_ild 1 14), (14, o_ild 2 15), (15, o_callV M_Mm_restOf 8 3 18), (18, o_icmp_eq 33 21), (21, o_ald 0 22), (22, o_ild 1 23), (23, o_ild 2 24), (24, o_ild 3 25), (25, o_callV M_Mm_mends 8 4 28), (28, o_if_eq 33 31), (31, o_ild 3 32), (32, o_iret), (33, o_iinc 3 (iI (1)) 36), (36, o_goto 2), (39, o_push (.int (iI (-1))) 40), (40, o_iret)]
theorem k_Mm_mendingRest : ∀ x ∈ T_Mm_mendingRest, SO M_Mm_mendingRest x.1 x.2 := by
  obtain ⟨h0, h1, h2, h3, h4, h5, h8, h11, h12, h13, h14, h15⟩ := e0_Mm_mendingRest
  obtain ⟨h18, h21, h22, h23, h24, h25, h28, h31, h32, h33, h36, h39⟩ := e1_Mm_mendingRest
  have h40 := e2_Mm_mendingRest
  refine ac (s_iconst (M := M_Mm_mendingRest) (pc := 0) h0 rfl) ?_
  refine ac (s_istn (M := M_Mm_mendingRest) (pc := 1) (k := 3) h1 (by decide)) ?_
  refine ac (s_ildn (M := M_Mm_mendingRest) (pc := 2) (k := 3) h2) ?_
  refine ac (s_aldn (M := M_Mm_mendingRest) (pc := 3) (k := 0) h3) ?_
  refine ac (s_ildn (M := M_Mm_mendingRest) (pc := 4) (k := 2) h4) ?_
  refine ac (s_callV (M := M_Mm_mendingRest) (pc := 5) (tz_Mm rfl) h5 q_Mm_mod wd1866 wd1868 wd42 rfl (T := TX8) (N := 29) rfl) ?_
  refine ac (s_icmp_ge (M := M_Mm_mendingRest) (pc := 8) h8 (by decide)) ?_
  refine ac (s_ildn (M := M_Mm_mendingRest) (pc := 11) (k := 3) h11) ?_
  refine ac (s_aldn (M := M_Mm_mendingRest) (pc := 12) (k := 0) h12) ?_
  refine ac (s_ildn (M := M_Mm_mendingRest) (pc := 13) (k := 1) h13) ?_
  refine ac (s_ildn (M := M_Mm_mendingRest) (pc := 14) (k := 2) h14) ?_
  refine ac (s_callV (M := M_Mm_mendingRest) (pc := 15) (tz_Mm rfl) h15 q_Mm_restOf wd1984 wd1986 wd67 rfl (T := TX8) (N := 29) rfl) ?_
  refine ac (s_icmp_eq (M := M_Mm_mendingRest) (pc := 18) h18 (by decide)) ?_
  refine ac (s_aldn (M := M_Mm_mendingRest) (pc := 21) (k := 0) h21) ?_
  refine ac (s_ildn (M := M_Mm_mendingRest) (pc := 22) (k := 1) h22) ?_
  refine ac (s_ildn (M := M_Mm_mendingRest) (pc := 23) (k := 2) h23) ?_
  refine ac (s_ildn (M := M_Mm_mendingRest) (pc := 24) (k := 3) h24) ?_
  refine ac (s_callV (M := M_Mm_mendingRest) (pc := 25) (tz_Mm rfl) h25 q_Mm_mends wd2049 wd2051 wd81 rfl (T := TX8) (N := 29) rfl) ?_
  refine ac (s_if_eq (M := M_Mm_mendingRest) (pc := 28) h28 (by decide)) ?_
  refine ac (s_ildn (M := M_Mm_mendingRest) (pc := 31) (k := 3) h31) ?_
  refine ac (s_iret (M := M_Mm_mendingRest) (pc := 32) h32 rfl) ?_
  refine ac (s_iinc (M := M_Mm_mendingRest) (pc := 33) h33 rfl (by decide)) ?_
  refine ac (s_goto (M := M_Mm_mendingRest) (pc := 36) h36 (by decide)) ?_
  refine ac (s_iconst (M := M_Mm_mendingRest) (pc := 39) h39 rfl) ?_
  refine ac (s_iret (M := M_Mm_mendingRest) (pc := 40) h40 rfl) ?_
  exact ac_nil
theorem e0_Mm_mends : decode prog_10_method_33_code 0 = .ok (.aload_n 0, 1) ∧ decode prog_10_method_33_code 1 = .ok (.iload_n 1, 1) ∧ decode prog_10_method_33_code 2 = .ok (.bipush 8, 2) ∧ decode prog_10_method_33_code 4 = .ok (.invokevirtual 143, 3) ∧ decode prog_10_method_33_code 7 = .ok (.aload_n 0, 1) ∧ decode prog_10_method_33_code 8 = .ok (.bipush 8, 2) ∧ decode prog_10_method_33_code 10 = .ok (.iload_n 2, 1) ∧ decode prog_10_method_33_code 11 = .ok (.iload_n 3, 1) ∧ decode prog_10_method_33_code 12 = .ok (.invokevirtual 82, 3) ∧ decode prog_10_method_33_code 15 = .ok (.aload_n 0, 1) ∧ decode prog_10_method_33_code 16 = .ok (.bipush 8, 2) ∧ decode prog_10_method_33_code 18 = .ok (.invokevirtual 126, 3) := by decide +kernel
theorem e1_Mm_mends : decode prog_10_method_33_code 21 = .ok (.ireturn, 1) := by decide +kernel
def T_Mm_mends : TT := [(0, o_ald 0 1), (1, o_ild 1 2), (2, o_push (.int (iI (8))) 4), (4, o_callV M_Mm_copiesRow 8 3 7), (7, o_ald 0 8), (8, o_push (.int (iI (8))) 10), (10, o_ild 2 11), (11, o_ild 3 12), (12, o_callV M_Mm_puts 8 4 15), (15, o_ald 0 16), (16, o_push (.int (iI (8))) 18), (18, o_callV M_Mm_soundNow 8 2 21), (21, o_zret)]
theorem k_Mm_mends : ∀ x ∈ T_Mm_mends, SO M_Mm_mends x.1 x.2 := by
  obtain ⟨h0, h1, h2, h4, h7, h8, h10, h11, h12, h15, h16, h18⟩ := e0_Mm_mends
  have h21 := e1_Mm_mends
  refine ac (s_aldn (M := M_Mm_mends) (pc := 0) (k := 0) h0) ?_
  refine ac (s_ildn (M := M_Mm_mends) (pc := 1) (k := 1) h1) ?_
  refine ac (s_bipush (M := M_Mm_mends) (pc := 2) h2 (by decide)) ?_
  refine ac (s_callV (M := M_Mm_mends) (pc := 4) (tz_Mm rfl) h4 q_Mm_copiesRow wd1980 wd1982 wd66 rfl (T := TX8) (N := 29) rfl) ?_
  refine ac (s_aldn (M := M_Mm_mends) (pc := 7) (k := 0) h7) ?_
  refine ac (s_bipush (M := M_Mm_mends) (pc := 8) h8 (by decide)) ?_
  refine ac (s_ildn (M := M_Mm_mends) (pc := 10) (k := 2) h10) ?_
  refine ac (s_ildn (M := M_Mm_mends) (pc := 11) (k := 3) h11) ?_
  refine ac (s_callV (M := M_Mm_mends) (pc := 12) (tz_Mm rfl) h12 q_Mm_puts wd1921 wd1923 wd53 rfl (T := TX8) (N := 29) rfl) ?_
  refine ac (s_aldn (M := M_Mm_mends) (pc := 15) (k := 0) h15) ?_
  refine ac (s_bipush (M := M_Mm_mends) (pc := 16) h16 (by decide)) ?_
  refine ac (s_callV (M := M_Mm_mends) (pc := 18) (tz_Mm rfl) h18 q_Mm_soundNow wd2013 wd2015 wd72 rfl (T := TX8) (N := 29) rfl) ?_
  refine ac (s_zret (M := M_Mm_mends) (pc := 21) h21 rfl) ?_
  exact ac_nil
theorem e0_Mm_swaps : decode prog_10_method_36_code 0 = .ok (.aload_n 0, 1) ∧ decode prog_10_method_36_code 1 = .ok (.iload_n 1, 1) ∧ decode prog_10_method_36_code 2 = .ok (.bipush 8, 2) ∧ decode prog_10_method_36_code 4 = .ok (.invokevirtual 143, 3) ∧ decode prog_10_method_36_code 7 = .ok (.aload_n 0, 1) ∧ decode prog_10_method_36_code 8 = .ok (.iload_n 2, 1) ∧ decode prog_10_method_36_code 9 = .ok (.iload_n 1, 1) ∧ decode prog_10_method_36_code 10 = .ok (.invokevirtual 143, 3) ∧ decode prog_10_method_36_code 13 = .ok (.aload_n 0, 1) ∧ decode prog_10_method_36_code 14 = .ok (.bipush 8, 2) ∧ decode prog_10_method_36_code 16 = .ok (.iload_n 2, 1) ∧ decode prog_10_method_36_code 17 = .ok (.invokevirtual 143, 3) := by decide +kernel
theorem e1_Mm_swaps : decode prog_10_method_36_code 20 = .ok (.return_, 1) := by decide +kernel
def T_Mm_swaps : TT := [(0, o_ald 0 1), (1, o_ild 1 2), (2, o_push (.int (iI (8))) 4), (4, o_callV M_Mm_copiesRow 8 3 7), (7, o_ald 0 8), (8, o_ild 2 9), (9, o_ild 1 10), (10, o_callV M_Mm_copiesRow 8 3 13), (13, o_ald 0 14), (14, o_push (.int (iI (8))) 16), (16, o_ild 2 17), (17, o_callV M_Mm_copiesRow 8 3 20), (20, o_vret)]
theorem k_Mm_swaps : ∀ x ∈ T_Mm_swaps, SO M_Mm_swaps x.1 x.2 := by
  obtain ⟨h0, h1, h2, h4, h7, h8, h9, h10, h13, h14, h16, h17⟩ := e0_Mm_swaps
  have h20 := e1_Mm_swaps
  refine ac (s_aldn (M := M_Mm_swaps) (pc := 0) (k := 0) h0) ?_
  refine ac (s_ildn (M := M_Mm_swaps) (pc := 1) (k := 1) h1) ?_
  refine ac (s_bipush (M := M_Mm_swaps) (pc := 2) h2 (by decide)) ?_
  refine ac (s_callV (M := M_Mm_swaps) (pc := 4) (tz_Mm rfl) h4 q_Mm_copiesRow wd1980 wd1982 wd66 rfl (T := TX8) (N := 29) rfl) ?_
  refine ac (s_aldn (M := M_Mm_swaps) (pc := 7) (k := 0) h7) ?_
  refine ac (s_ildn (M := M_Mm_swaps) (pc := 8) (k := 2) h8) ?_
  refine ac (s_ildn (M := M_Mm_swaps) (pc := 9) (k := 1) h9) ?_
  refine ac (s_callV (M := M_Mm_swaps) (pc := 10) (tz_Mm rfl) h10 q_Mm_copiesRow wd1980 wd1982 wd66 rfl (T := TX8) (N := 29) rfl) ?_
  refine ac (s_aldn (M := M_Mm_swaps) (pc := 13) (k := 0) h13) ?_
  refine ac (s_bipush (M := M_Mm_swaps) (pc := 14) h14 (by decide)) ?_
  refine ac (s_ildn (M := M_Mm_swaps) (pc := 16) (k := 2) h16) ?_
  refine ac (s_callV (M := M_Mm_swaps) (pc := 17) (tz_Mm rfl) h17 q_Mm_copiesRow wd1980 wd1982 wd66 rfl (T := TX8) (N := 29) rfl) ?_
  refine ac (s_vret (M := M_Mm_swaps) (pc := 20) h20 rfl) ?_
  exact ac_nil
theorem e0_Mm_count : decode prog_10_method_74_code 0 = .ok (.aload_n 0, 1) ∧ decode prog_10_method_74_code 1 = .ok (.iload_n 1, 1) ∧ decode prog_10_method_74_code 2 = .ok (.i2l, 1) ∧ decode prog_10_method_74_code 3 = .ok (.lconst 0, 1) ∧ decode prog_10_method_74_code 4 = .ok (.ldc2_w 343, 3) ∧ decode prog_10_method_74_code 7 = .ok (.invokestatic 57, 3) ∧ decode prog_10_method_74_code 10 = .ok (.ifCond .eq 7, 3) ∧ decode prog_10_method_74_code 13 = .ok (.iconst 0, 1) ∧ decode prog_10_method_74_code 14 = .ok (.goto 4, 3) ∧ decode prog_10_method_74_code 17 = .ok (.iconst 1, 1) ∧ decode prog_10_method_74_code 18 = .ok (.putfield 1, 3) ∧ decode prog_10_method_74_code 21 = .ok (.aload_n 0, 1) := by decide +kernel
theorem e1_Mm_count : decode prog_10_method_74_code 22 = .ok (.getfield 1, 3) ∧ decode prog_10_method_74_code 25 = .ok (.ifCond .eq 5, 3) ∧ decode prog_10_method_74_code 28 = .ok (.iconst 0, 1) ∧ decode prog_10_method_74_code 29 = .ok (.ireturn, 1) ∧ decode prog_10_method_74_code 30 = .ok (.iload_n 1, 1) ∧ decode prog_10_method_74_code 31 = .ok (.iconst 3, 1) ∧ decode prog_10_method_74_code 32 = .ok (.if_icmp .ge 12, 3) ∧ decode prog_10_method_74_code 35 = .ok (.aload_n 0, 1) ∧ decode prog_10_method_74_code 36 = .ok (.getfield 13, 3) ∧ decode prog_10_method_74_code 39 = .ok (.iload_n 1, 1) ∧ decode prog_10_method_74_code 40 = .ok (.iaload, 1) ∧ decode prog_10_method_74_code 41 = .ok (.goto 21, 3) := by decide +kernel
theorem e2_Mm_count : decode prog_10_method_74_code 44 = .ok (.iload_n 1, 1) ∧ decode prog_10_method_74_code 45 = .ok (.bipush 6, 2) ∧ decode prog_10_method_74_code 47 = .ok (.if_icmp .ne 10, 3) ∧ decode prog_10_method_74_code 50 = .ok (.aload_n 0, 1) ∧ decode prog_10_method_74_code 51 = .ok (.getfield 129, 3) ∧ decode prog_10_method_74_code 54 = .ok (.goto 8, 3) ∧ decode prog_10_method_74_code 57 = .ok (.aload_n 0, 1) ∧ decode prog_10_method_74_code 58 = .ok (.iload_n 1, 1) ∧ decode prog_10_method_74_code 59 = .ok (.invokevirtual 345, 3) ∧ decode prog_10_method_74_code 62 = .ok (.ireturn, 1) := by decide +kernel
def T_Mm_count : TT := [(0, o_ald 0 1), (1, o_ild 1 2), (2, o_i2l 3), (3, o_push (.long (lI 0)) 4), (4, o_push (.long (lI (6))) 7), (7, o_call M_Mm_isIn 3 10), (10, o_if_eq 17 13), (13, o_push (.int (iI (0))) 14), (14, o_goto 18), (17, o_push (.int (iI (1))) 18), (18, o_puti 8 0 21), (21, o_ald 0 22), (22, o_get 8 0 25), (25, o_if_eq 30 28), (28, o_push (.int (iI (0))) 29), (29, o_iret), (30, o_ild 1 31), (31, o_push (.int (iI (3))) 32), (32, o_icmp_ge 44 35), (35, o_ald 0 36), (36, o_get 8 1 39), (39, o_ild 1 40), (40, o_iald 41), (41, o_goto 62), (44, o_ild 1 45), (45, o_push (.int (iI (6))) 47), (47, o_icmp_ne 57 50), (50, o_ald 0 51), (51, o_get 8 5 54), (54, o_goto 62), (57, o_ald 0 58), (58, o_ild 1 59), (59, o_callV M_Mm_registersBy 8 2 62), (62, o_iret)]
theorem k_Mm_count : ∀ x ∈ T_Mm_count, SO M_Mm_count x.1 x.2 := by
  obtain ⟨h0, h1, h2, h3, h4, h7, h10, h13, h14, h17, h18, h21⟩ := e0_Mm_count
  obtain ⟨h22, h25, h28, h29, h30, h31, h32, h35, h36, h39, h40, h41⟩ := e1_Mm_count
  obtain ⟨h44, h45, h47, h50, h51, h54, h57, h58, h59, h62⟩ := e2_Mm_count
  refine ac (s_aldn (M := M_Mm_count) (pc := 0) (k := 0) h0) ?_
  refine ac (s_ildn (M := M_Mm_count) (pc := 1) (k := 1) h1) ?_
  refine ac (s_i2l (M := M_Mm_count) (pc := 2) h2) ?_
  refine ac (s_lconst (M := M_Mm_count) (pc := 3) h3 (by decide)) ?_
  refine ac (s_ldc2 (M := M_Mm_count) (pc := 4) h4 wd2061) ?_
  refine ac (s_callS (M := M_Mm_count) (pc := 7) (tz_Mm rfl) h7 q_Mm_isIn wd1789 wd1790) ?_
  refine ac (s_if_eq (M := M_Mm_count) (pc := 10) h10 (by decide)) ?_
  refine ac (s_iconst (M := M_Mm_count) (pc := 13) h13 rfl) ?_
  refine ac (s_goto (M := M_Mm_count) (pc := 14) h14 (by decide)) ?_
  refine ac (s_iconst (M := M_Mm_count) (pc := 17) h17 rfl) ?_
  refine ac (s_puti (M := M_Mm_count) (pc := 18) (T := TX8) (N := 29) (ty0 := tyX8) h18 ⟨rfl, in_X8, by decide, wd1689, tyX8_ok, nmX8, (Or.inl rfl)⟩ rfl) ?_
  refine ac (s_aldn (M := M_Mm_count) (pc := 21) (k := 0) h21) ?_
  refine ac (s_get (M := M_Mm_count) (pc := 22) (T := TX8) (N := 29) h22 rfl in_X8 (by decide) wd1689) ?_
  refine ac (s_if_eq (M := M_Mm_count) (pc := 25) h25 (by decide)) ?_
  refine ac (s_iconst (M := M_Mm_count) (pc := 28) h28 rfl) ?_
  refine ac (s_iret (M := M_Mm_count) (pc := 29) h29 rfl) ?_
  refine ac (s_ildn (M := M_Mm_count) (pc := 30) (k := 1) h30) ?_
  refine ac (s_iconst (M := M_Mm_count) (pc := 31) h31 rfl) ?_
  refine ac (s_icmp_ge (M := M_Mm_count) (pc := 32) h32 (by decide)) ?_
  refine ac (s_aldn (M := M_Mm_count) (pc := 35) (k := 0) h35) ?_
  refine ac (s_get (M := M_Mm_count) (pc := 36) (T := TX8) (N := 29) h36 rfl in_X8 (by decide) wd1690) ?_
  refine ac (s_ildn (M := M_Mm_count) (pc := 39) (k := 1) h39) ?_
  refine ac (s_iald (M := M_Mm_count) (pc := 40) h40) ?_
  refine ac (s_goto (M := M_Mm_count) (pc := 41) h41 (by decide)) ?_
  refine ac (s_ildn (M := M_Mm_count) (pc := 44) (k := 1) h44) ?_
  refine ac (s_bipush (M := M_Mm_count) (pc := 45) h45 (by decide)) ?_
  refine ac (s_icmp_ne (M := M_Mm_count) (pc := 47) h47 (by decide)) ?_
  refine ac (s_aldn (M := M_Mm_count) (pc := 50) (k := 0) h50) ?_
  refine ac (s_get (M := M_Mm_count) (pc := 51) (T := TX8) (N := 29) h51 rfl in_X8 (by decide) wd1694) ?_
  refine ac (s_goto (M := M_Mm_count) (pc := 54) h54 (by decide)) ?_
  refine ac (s_aldn (M := M_Mm_count) (pc := 57) (k := 0) h57) ?_
  refine ac (s_ildn (M := M_Mm_count) (pc := 58) (k := 1) h58) ?_
  refine ac (s_callV (M := M_Mm_count) (pc := 59) (tz_Mm rfl) h59 q_Mm_registersBy wd2062 wd2064 wd83 rfl (T := TX8) (N := 29) rfl) ?_
  refine ac (s_iret (M := M_Mm_count) (pc := 62) h62 rfl) ?_
  exact ac_nil
theorem e0_Mm_registersBy : decode prog_10_method_73_code 0 = .ok (.iconst 0, 1) ∧ decode prog_10_method_73_code 1 = .ok (.istore_n 2, 1) ∧ decode prog_10_method_73_code 2 = .ok (.iconst 0, 1) ∧ decode prog_10_method_73_code 3 = .ok (.istore_n 3, 1) ∧ decode prog_10_method_73_code 4 = .ok (.iload_n 3, 1) ∧ decode prog_10_method_73_code 5 = .ok (.bipush 8, 2) ∧ decode prog_10_method_73_code 7 = .ok (.if_icmp .ge 59, 3) ∧ decode prog_10_method_73_code 10 = .ok (.aload_n 0, 1) ∧ decode prog_10_method_73_code 11 = .ok (.iload_n 3, 1) ∧ decode prog_10_method_73_code 12 = .ok (.invokevirtual 104, 3) ∧ decode prog_10_method_73_code 15 = .ok (.lstore 4, 2) ∧ decode prog_10_method_73_code 17 = .ok (.iload_n 1, 1) := by decide +kernel
theorem e1_Mm_registersBy : decode prog_10_method_73_code 18 = .ok (.iconst 3, 1) ∧ decode prog_10_method_73_code 19 = .ok (.if_icmp .ne 15, 3) ∧ decode prog_10_method_73_code 22 = .ok (.aload_n 0, 1) ∧ decode prog_10_method_73_code 23 = .ok (.lload 4, 2) ∧ decode prog_10_method_73_code 25 = .ok (.invokevirtual 107, 3) ∧ decode prog_10_method_73_code 28 = .ok (.ifCond .eq 32, 3) ∧ decode prog_10_method_73_code 31 = .ok (.goto 25, 3) ∧ decode prog_10_method_73_code 34 = .ok (.iload_n 1, 1) ∧ decode prog_10_method_73_code 35 = .ok (.iconst 4, 1) ∧ decode prog_10_method_73_code 36 = .ok (.if_icmp .ne 13, 3) ∧ decode prog_10_method_73_code 39 = .ok (.lload 4, 2) ∧ decode prog_10_method_73_code 41 = .ok (.lconst 0, 1) := by decide +kernel
theorem e2_Mm_registersBy : decode prog_10_method_73_code 42 = .ok (.lcmp, 1) ∧ decode prog_10_method_73_code 43 = .ok (.ifCond .ne 17, 3) ∧ decode prog_10_method_73_code 46 = .ok (.goto 10, 3) ∧ decode prog_10_method_73_code 49 = .ok (.lload 4, 2) ∧ decode prog_10_method_73_code 51 = .ok (.lconst 0, 1) ∧ decode prog_10_method_73_code 52 = .ok (.lcmp, 1) ∧ decode prog_10_method_73_code 53 = .ok (.ifCond .ge 7, 3) ∧ decode prog_10_method_73_code 56 = .ok (.iload_n 2, 1) ∧ decode prog_10_method_73_code 57 = .ok (.iconst 1, 1) ∧ decode prog_10_method_73_code 58 = .ok (.iadd, 1) ∧ decode prog_10_method_73_code 59 = .ok (.istore_n 2, 1) ∧ decode prog_10_method_73_code 60 = .ok (.iinc 3 1, 3) := by decide +kernel
theorem e3_Mm_registersBy : decode prog_10_method_73_code 63 = .ok (.goto (-59), 3) ∧ decode prog_10_method_73_code 66 = .ok (.iload_n 2, 1) ∧ decode prog_10_method_73_code 67 = .ok (.ireturn, 1) := by decide +kernel
def T_Mm_registersBy : TT := [(0, o_push (.int (iI (0))) 1), (1, o_ist 2 2), (2, o_push (.int (iI (0))) 3), (3, o_ist 3 4), (4, o_ild 3 5), (5, o_push (.int (iI (8))) 7), (7, o_icmp_ge 66 10), (10, o_ald 0 11), (11, o_ild 3 12), (12, o_callV M_Mm_numberOf 8 2 15), (15, o_lst 4 17), (17, o_ild 1 18), (18, o_push (.int (iI (3))) 19), (19, o_icmp_ne 34 22), (22, o_ald 0 23), (23, o_lld 4 25), (25, o_callV M_Mm_fits 8 2 28), (28, o_if_eq 60 31), (31, o_goto 56), (34, o_ild 1 35), (35, o_push (.int (iI (4))) 36), (36, o_icmp_ne 49 39), (39, o_lld 4 41), (41, o_push (.long (lI 0)) 42), (42, o_lc_ne 60 46), (46, o_goto 56), (49, o_lld 4 51), (51, o_push (.long (lI 0)) 52), (52, o_lc_ge 60 56), (56, o_ild 2 57), (57, o_push (.int (iI (1))) 58), (58, o_iadd 59), (59, o_ist 2 60), (60, o_iinc 3 (iI (1)) 63), (63, o_goto 4), (66, o_ild 2 67), (67, o_iret)]
theorem k_Mm_registersBy : ∀ x ∈ T_Mm_registersBy, SO M_Mm_registersBy x.1 x.2 := by
  obtain ⟨h0, h1, h2, h3, h4, h5, h7, h10, h11, h12, h15, h17⟩ := e0_Mm_registersBy
  obtain ⟨h18, h19, h22, h23, h25, h28, h31, h34, h35, h36, h39, h41⟩ := e1_Mm_registersBy
  obtain ⟨h42, h43, h46, h49, h51, h52, h53, h56, h57, h58, h59, h60⟩ := e2_Mm_registersBy
  obtain ⟨h63, h66, h67⟩ := e3_Mm_registersBy
  refine ac (s_iconst (M := M_Mm_registersBy) (pc := 0) h0 rfl) ?_
  refine ac (s_istn (M := M_Mm_registersBy) (pc := 1) (k := 2) h1 (by decide)) ?_
  refine ac (s_iconst (M := M_Mm_registersBy) (pc := 2) h2 rfl) ?_
  refine ac (s_istn (M := M_Mm_registersBy) (pc := 3) (k := 3) h3 (by decide)) ?_
  refine ac (s_ildn (M := M_Mm_registersBy) (pc := 4) (k := 3) h4) ?_
  refine ac (s_bipush (M := M_Mm_registersBy) (pc := 5) h5 (by decide)) ?_
  refine ac (s_icmp_ge (M := M_Mm_registersBy) (pc := 7) h7 (by decide)) ?_
  refine ac (s_aldn (M := M_Mm_registersBy) (pc := 10) (k := 0) h10) ?_
  refine ac (s_ildn (M := M_Mm_registersBy) (pc := 11) (k := 3) h11) ?_
  refine ac (s_callV (M := M_Mm_registersBy) (pc := 12) (tz_Mm rfl) h12 q_Mm_numberOf wd1992 wd1994 wd69 rfl (T := TX8) (N := 29) rfl) ?_
  refine ac (s_lst (M := M_Mm_registersBy) (pc := 15) h15 (by decide)) ?_
  refine ac (s_ildn (M := M_Mm_registersBy) (pc := 17) (k := 1) h17) ?_
  refine ac (s_iconst (M := M_Mm_registersBy) (pc := 18) h18 rfl) ?_
  refine ac (s_icmp_ne (M := M_Mm_registersBy) (pc := 19) h19 (by decide)) ?_
  refine ac (s_aldn (M := M_Mm_registersBy) (pc := 22) (k := 0) h22) ?_
  refine ac (s_lld (M := M_Mm_registersBy) (pc := 23) h23) ?_
  refine ac (s_callV (M := M_Mm_registersBy) (pc := 25) (tz_Mm rfl) h25 q_Mm_fits wd2017 wd2019 wd73 rfl (T := TX8) (N := 29) rfl) ?_
  refine ac (s_if_eq (M := M_Mm_registersBy) (pc := 28) h28 (by decide)) ?_
  refine ac (s_goto (M := M_Mm_registersBy) (pc := 31) h31 (by decide)) ?_
  refine ac (s_ildn (M := M_Mm_registersBy) (pc := 34) (k := 1) h34) ?_
  refine ac (s_iconst (M := M_Mm_registersBy) (pc := 35) h35 rfl) ?_
  refine ac (s_icmp_ne (M := M_Mm_registersBy) (pc := 36) h36 (by decide)) ?_
  refine ac (s_lld (M := M_Mm_registersBy) (pc := 39) h39) ?_
  refine ac (s_lconst (M := M_Mm_registersBy) (pc := 41) h41 (by decide)) ?_
  refine ac (s_lc_ne (M := M_Mm_registersBy) (pc := 42) h42 h43 (by decide)) ?_
  refine ac (s_goto (M := M_Mm_registersBy) (pc := 46) h46 (by decide)) ?_
  refine ac (s_lld (M := M_Mm_registersBy) (pc := 49) h49) ?_
  refine ac (s_lconst (M := M_Mm_registersBy) (pc := 51) h51 (by decide)) ?_
  refine ac (s_lc_ge (M := M_Mm_registersBy) (pc := 52) h52 h53 (by decide)) ?_
  refine ac (s_ildn (M := M_Mm_registersBy) (pc := 56) (k := 2) h56) ?_
  refine ac (s_iconst (M := M_Mm_registersBy) (pc := 57) h57 rfl) ?_
  refine ac (s_iadd (M := M_Mm_registersBy) (pc := 58) h58) ?_
  refine ac (s_istn (M := M_Mm_registersBy) (pc := 59) (k := 2) h59 (by decide)) ?_
  refine ac (s_iinc (M := M_Mm_registersBy) (pc := 60) h60 rfl (by decide)) ?_
  refine ac (s_goto (M := M_Mm_registersBy) (pc := 63) h63 (by decide)) ?_
  refine ac (s_ildn (M := M_Mm_registersBy) (pc := 66) (k := 2) h66) ?_
  refine ac (s_iret (M := M_Mm_registersBy) (pc := 67) h67 rfl) ?_
  exact ac_nil
theorem e0_Mm_account : decode prog_10_method_75_code 0 = .ok (.aload_n 0, 1) ∧ decode prog_10_method_75_code 1 = .ok (.iload_n 1, 1) ∧ decode prog_10_method_75_code 2 = .ok (.i2l, 1) ∧ decode prog_10_method_75_code 3 = .ok (.lconst 0, 1) ∧ decode prog_10_method_75_code 4 = .ok (.ldc2_w 55, 3) ∧ decode prog_10_method_75_code 7 = .ok (.invokestatic 57, 3) ∧ decode prog_10_method_75_code 10 = .ok (.ifCond .eq 7, 3) ∧ decode prog_10_method_75_code 13 = .ok (.iconst 0, 1) ∧ decode prog_10_method_75_code 14 = .ok (.goto 4, 3) ∧ decode prog_10_method_75_code 17 = .ok (.iconst 1, 1) ∧ decode prog_10_method_75_code 18 = .ok (.putfield 1, 3) ∧ decode prog_10_method_75_code 21 = .ok (.aload_n 0, 1) := by decide +kernel
theorem e1_Mm_account : decode prog_10_method_75_code 22 = .ok (.getfield 1, 3) ∧ decode prog_10_method_75_code 25 = .ok (.ifCond .ne 14, 3) ∧ decode prog_10_method_75_code 28 = .ok (.aload_n 0, 1) ∧ decode prog_10_method_75_code 29 = .ok (.getfield 13, 3) ∧ decode prog_10_method_75_code 32 = .ok (.iconst 3, 1) ∧ decode prog_10_method_75_code 33 = .ok (.iload_n 1, 1) ∧ decode prog_10_method_75_code 34 = .ok (.iadd, 1) ∧ decode prog_10_method_75_code 35 = .ok (.iaload, 1) ∧ decode prog_10_method_75_code 36 = .ok (.goto 4, 3) ∧ decode prog_10_method_75_code 39 = .ok (.iconst 0, 1) ∧ decode prog_10_method_75_code 40 = .ok (.ireturn, 1) := by decide +kernel
def T_Mm_account : TT := [(0, o_ald 0 1), (1, o_ild 1 2), (2, o_i2l 3), (3, o_push (.long (lI 0)) 4), (4, o_push (.long (lI (7))) 7), (7, o_call M_Mm_isIn 3 10), (10, o_if_eq 17 13), (13, o_push (.int (iI (0))) 14), (14, o_goto 18), (17, o_push (.int (iI (1))) 18), (18, o_puti 8 0 21), (21, o_ald 0 22), (22, o_get 8 0 25), (25, o_if_ne 39 28), (28, o_ald 0 29), (29, o_get 8 1 32), (32, o_push (.int (iI (3))) 33), (33, o_ild 1 34), (34, o_iadd 35), (35, o_iald 36), (36, o_goto 40), (39, o_push (.int (iI (0))) 40), (40, o_iret)]
theorem k_Mm_account : ∀ x ∈ T_Mm_account, SO M_Mm_account x.1 x.2 := by
  obtain ⟨h0, h1, h2, h3, h4, h7, h10, h13, h14, h17, h18, h21⟩ := e0_Mm_account
  obtain ⟨h22, h25, h28, h29, h32, h33, h34, h35, h36, h39, h40⟩ := e1_Mm_account
  refine ac (s_aldn (M := M_Mm_account) (pc := 0) (k := 0) h0) ?_
  refine ac (s_ildn (M := M_Mm_account) (pc := 1) (k := 1) h1) ?_
  refine ac (s_i2l (M := M_Mm_account) (pc := 2) h2) ?_
  refine ac (s_lconst (M := M_Mm_account) (pc := 3) h3 (by decide)) ?_
  refine ac (s_ldc2 (M := M_Mm_account) (pc := 4) h4 wd2070) ?_
  refine ac (s_callS (M := M_Mm_account) (pc := 7) (tz_Mm rfl) h7 q_Mm_isIn wd1789 wd1790) ?_
  refine ac (s_if_eq (M := M_Mm_account) (pc := 10) h10 (by decide)) ?_
  refine ac (s_iconst (M := M_Mm_account) (pc := 13) h13 rfl) ?_
  refine ac (s_goto (M := M_Mm_account) (pc := 14) h14 (by decide)) ?_
  refine ac (s_iconst (M := M_Mm_account) (pc := 17) h17 rfl) ?_
  refine ac (s_puti (M := M_Mm_account) (pc := 18) (T := TX8) (N := 29) (ty0 := tyX8) h18 ⟨rfl, in_X8, by decide, wd1689, tyX8_ok, nmX8, (Or.inl rfl)⟩ rfl) ?_
  refine ac (s_aldn (M := M_Mm_account) (pc := 21) (k := 0) h21) ?_
  refine ac (s_get (M := M_Mm_account) (pc := 22) (T := TX8) (N := 29) h22 rfl in_X8 (by decide) wd1689) ?_
  refine ac (s_if_ne (M := M_Mm_account) (pc := 25) h25 (by decide)) ?_
  refine ac (s_aldn (M := M_Mm_account) (pc := 28) (k := 0) h28) ?_
  refine ac (s_get (M := M_Mm_account) (pc := 29) (T := TX8) (N := 29) h29 rfl in_X8 (by decide) wd1690) ?_
  refine ac (s_iconst (M := M_Mm_account) (pc := 32) h32 rfl) ?_
  refine ac (s_ildn (M := M_Mm_account) (pc := 33) (k := 1) h33) ?_
  refine ac (s_iadd (M := M_Mm_account) (pc := 34) h34) ?_
  refine ac (s_iald (M := M_Mm_account) (pc := 35) h35) ?_
  refine ac (s_goto (M := M_Mm_account) (pc := 36) h36 (by decide)) ?_
  refine ac (s_iconst (M := M_Mm_account) (pc := 39) h39 rfl) ?_
  refine ac (s_iret (M := M_Mm_account) (pc := 40) h40 rfl) ?_
  exact ac_nil
theorem e0_Mm_bound : decode prog_10_method_76_code 0 = .ok (.aload_n 0, 1) ∧ decode prog_10_method_76_code 1 = .ok (.iload_n 1, 1) ∧ decode prog_10_method_76_code 2 = .ok (.i2l, 1) ∧ decode prog_10_method_76_code 3 = .ok (.lconst 0, 1) ∧ decode prog_10_method_76_code 4 = .ok (.ldc2_w 76, 3) ∧ decode prog_10_method_76_code 7 = .ok (.invokestatic 57, 3) ∧ decode prog_10_method_76_code 10 = .ok (.ifCond .eq 7, 3) ∧ decode prog_10_method_76_code 13 = .ok (.iconst 0, 1) ∧ decode prog_10_method_76_code 14 = .ok (.goto 4, 3) ∧ decode prog_10_method_76_code 17 = .ok (.iconst 1, 1) ∧ decode prog_10_method_76_code 18 = .ok (.putfield 1, 3) ∧ decode prog_10_method_76_code 21 = .ok (.aload_n 0, 1) := by decide +kernel
theorem e1_Mm_bound : decode prog_10_method_76_code 22 = .ok (.getfield 1, 3) ∧ decode prog_10_method_76_code 25 = .ok (.ifCond .eq 5, 3) ∧ decode prog_10_method_76_code 28 = .ok (.lconst 0, 1) ∧ decode prog_10_method_76_code 29 = .ok (.lreturn, 1) ∧ decode prog_10_method_76_code 30 = .ok (.iload_n 1, 1) ∧ decode prog_10_method_76_code 31 = .ok (.ifCond .ne 14, 3) ∧ decode prog_10_method_76_code 34 = .ok (.aload_n 0, 1) ∧ decode prog_10_method_76_code 35 = .ok (.aload_n 0, 1) ∧ decode prog_10_method_76_code 36 = .ok (.invokevirtual 73, 3) ∧ decode prog_10_method_76_code 39 = .ok (.invokevirtual 69, 3) ∧ decode prog_10_method_76_code 42 = .ok (.goto 19, 3) ∧ decode prog_10_method_76_code 45 = .ok (.iload_n 1, 1) := by decide +kernel
theorem e2_Mm_bound : decode prog_10_method_76_code 46 = .ok (.iconst 1, 1) ∧ decode prog_10_method_76_code 47 = .ok (.if_icmp .ne 10, 3) ∧ decode prog_10_method_76_code 50 = .ok (.aload_n 0, 1) ∧ decode prog_10_method_76_code 51 = .ok (.invokevirtual 93, 3) ∧ decode prog_10_method_76_code 54 = .ok (.goto 7, 3) ∧ decode prog_10_method_76_code 57 = .ok (.aload_n 0, 1) ∧ decode prog_10_method_76_code 58 = .ok (.invokevirtual 101, 3) ∧ decode prog_10_method_76_code 61 = .ok (.lreturn, 1) := by decide +kernel
def T_Mm_bound : TT := [(0, o_ald 0 1), (1, o_ild 1 2), (2, o_i2l 3), (3, o_push (.long (lI 0)) 4), (4, o_push (.long (lI (2))) 7), (7, o_call M_Mm_isIn 3 10), (10, o_if_eq 17 13), (13, o_push (.int (iI (0))) 14), (14, o_goto 18), (17, o_push (.int (iI (1))) 18), (18, o_puti 8 0 21), (21, o_ald 0 22), (22, o_get 8 0 25), (25, o_if_eq 30 28), (28, o_push (.long (lI 0)) 29), (29, o_lret), (30, o_ild 1 31), (31, o_if_ne 45 34), (34, o_ald 0 35), (35, o_ald 0 36), (36, o_callV M_Mm_bases 8 1 39), (39, o_callV M_Mm_productOf 8 2 42), (42, o_goto 61), (45, o_ild 1 46), (46, o_push (.int (iI (1))) 47), (47, o_icmp_ne 57 50), (50, o_ald 0 51), (51, o_callV M_Mm_whole 8 1 54), (54, o_goto 61), (57, o_ald 0 58), (58, o_callV M_Mm_half 8 1 61), (61, o_lret)]
theorem k_Mm_bound : ∀ x ∈ T_Mm_bound, SO M_Mm_bound x.1 x.2 := by
  obtain ⟨h0, h1, h2, h3, h4, h7, h10, h13, h14, h17, h18, h21⟩ := e0_Mm_bound
  obtain ⟨h22, h25, h28, h29, h30, h31, h34, h35, h36, h39, h42, h45⟩ := e1_Mm_bound
  obtain ⟨h46, h47, h50, h51, h54, h57, h58, h61⟩ := e2_Mm_bound
  refine ac (s_aldn (M := M_Mm_bound) (pc := 0) (k := 0) h0) ?_
  refine ac (s_ildn (M := M_Mm_bound) (pc := 1) (k := 1) h1) ?_
  refine ac (s_i2l (M := M_Mm_bound) (pc := 2) h2) ?_
  refine ac (s_lconst (M := M_Mm_bound) (pc := 3) h3 (by decide)) ?_
  refine ac (s_ldc2 (M := M_Mm_bound) (pc := 4) h4 wd1857) ?_
  refine ac (s_callS (M := M_Mm_bound) (pc := 7) (tz_Mm rfl) h7 q_Mm_isIn wd1789 wd1790) ?_
  refine ac (s_if_eq (M := M_Mm_bound) (pc := 10) h10 (by decide)) ?_
  refine ac (s_iconst (M := M_Mm_bound) (pc := 13) h13 rfl) ?_
  refine ac (s_goto (M := M_Mm_bound) (pc := 14) h14 (by decide)) ?_
  refine ac (s_iconst (M := M_Mm_bound) (pc := 17) h17 rfl) ?_
  refine ac (s_puti (M := M_Mm_bound) (pc := 18) (T := TX8) (N := 29) (ty0 := tyX8) h18 ⟨rfl, in_X8, by decide, wd1689, tyX8_ok, nmX8, (Or.inl rfl)⟩ rfl) ?_
  refine ac (s_aldn (M := M_Mm_bound) (pc := 21) (k := 0) h21) ?_
  refine ac (s_get (M := M_Mm_bound) (pc := 22) (T := TX8) (N := 29) h22 rfl in_X8 (by decide) wd1689) ?_
  refine ac (s_if_eq (M := M_Mm_bound) (pc := 25) h25 (by decide)) ?_
  refine ac (s_lconst (M := M_Mm_bound) (pc := 28) h28 (by decide)) ?_
  refine ac (s_lret (M := M_Mm_bound) (pc := 29) h29 rfl) ?_
  refine ac (s_ildn (M := M_Mm_bound) (pc := 30) (k := 1) h30) ?_
  refine ac (s_if_ne (M := M_Mm_bound) (pc := 31) h31 (by decide)) ?_
  refine ac (s_aldn (M := M_Mm_bound) (pc := 34) (k := 0) h34) ?_
  refine ac (s_aldn (M := M_Mm_bound) (pc := 35) (k := 0) h35) ?_
  refine ac (s_callV (M := M_Mm_bound) (pc := 36) (tz_Mm rfl) h36 q_Mm_bases wd1910 wd1912 wd51 rfl (T := TX8) (N := 29) rfl) ?_
  refine ac (s_callV (M := M_Mm_bound) (pc := 39) (tz_Mm rfl) h39 q_Mm_productOf wd1862 wd1864 wd41 rfl (T := TX8) (N := 29) rfl) ?_
  refine ac (s_goto (M := M_Mm_bound) (pc := 42) h42 (by decide)) ?_
  refine ac (s_ildn (M := M_Mm_bound) (pc := 45) (k := 1) h45) ?_
  refine ac (s_iconst (M := M_Mm_bound) (pc := 46) h46 rfl) ?_
  refine ac (s_icmp_ne (M := M_Mm_bound) (pc := 47) h47 (by decide)) ?_
  refine ac (s_aldn (M := M_Mm_bound) (pc := 50) (k := 0) h50) ?_
  refine ac (s_callV (M := M_Mm_bound) (pc := 51) (tz_Mm rfl) h51 q_Mm_whole wd1858 wd1860 wd40 rfl (T := TX8) (N := 29) rfl) ?_
  refine ac (s_goto (M := M_Mm_bound) (pc := 54) h54 (by decide)) ?_
  refine ac (s_aldn (M := M_Mm_bound) (pc := 57) (k := 0) h57) ?_
  refine ac (s_callV (M := M_Mm_bound) (pc := 58) (tz_Mm rfl) h58 q_Mm_half wd1906 wd1908 wd50 rfl (T := TX8) (N := 29) rfl) ?_
  refine ac (s_lret (M := M_Mm_bound) (pc := 61) h61 rfl) ?_
  exact ac_nil
theorem e0_Mm_modulus : decode prog_10_method_81_code 0 = .ok (.aload_n 0, 1) ∧ decode prog_10_method_81_code 1 = .ok (.iload_n 1, 1) ∧ decode prog_10_method_81_code 2 = .ok (.invokevirtual 354, 3) ∧ decode prog_10_method_81_code 5 = .ok (.ifCond .eq 11, 3) ∧ decode prog_10_method_81_code 8 = .ok (.aload_n 0, 1) ∧ decode prog_10_method_81_code 9 = .ok (.iload_n 1, 1) ∧ decode prog_10_method_81_code 10 = .ok (.invokevirtual 65, 3) ∧ decode prog_10_method_81_code 13 = .ok (.goto 4, 3) ∧ decode prog_10_method_81_code 16 = .ok (.iconst 0, 1) ∧ decode prog_10_method_81_code 17 = .ok (.ireturn, 1) := by decide +kernel
def T_Mm_modulus : TT := [(0, o_ald 0 1), (1, o_ild 1 2), (2, o_callV M_Mm_mayModulus 8 2 5), (5, o_if_eq 16 8), (8, o_ald 0 9), (9, o_ild 1 10), (10, o_callV M_Mm_mod 8 2 13), (13, o_goto 17), (16, o_push (.int (iI (0))) 17), (17, o_iret)]
theorem k_Mm_modulus : ∀ x ∈ T_Mm_modulus, SO M_Mm_modulus x.1 x.2 := by
  obtain ⟨h0, h1, h2, h5, h8, h9, h10, h13, h16, h17⟩ := e0_Mm_modulus
  refine ac (s_aldn (M := M_Mm_modulus) (pc := 0) (k := 0) h0) ?_
  refine ac (s_ildn (M := M_Mm_modulus) (pc := 1) (k := 1) h1) ?_
  refine ac (s_callV (M := M_Mm_modulus) (pc := 2) (tz_Mm rfl) h2 q_Mm_mayModulus wd2079 wd2081 wd84 rfl (T := TX8) (N := 29) rfl) ?_
  refine ac (s_if_eq (M := M_Mm_modulus) (pc := 5) h5 (by decide)) ?_
  refine ac (s_aldn (M := M_Mm_modulus) (pc := 8) (k := 0) h8) ?_
  refine ac (s_ildn (M := M_Mm_modulus) (pc := 9) (k := 1) h9) ?_
  refine ac (s_callV (M := M_Mm_modulus) (pc := 10) (tz_Mm rfl) h10 q_Mm_mod wd1866 wd1868 wd42 rfl (T := TX8) (N := 29) rfl) ?_
  refine ac (s_goto (M := M_Mm_modulus) (pc := 13) h13 (by decide)) ?_
  refine ac (s_iconst (M := M_Mm_modulus) (pc := 16) h16 rfl) ?_
  refine ac (s_iret (M := M_Mm_modulus) (pc := 17) h17 rfl) ?_
  exact ac_nil
theorem e0_Mm_mayModulus : decode prog_10_method_77_code 0 = .ok (.aload_n 0, 1) ∧ decode prog_10_method_77_code 1 = .ok (.aload_n 0, 1) ∧ decode prog_10_method_77_code 2 = .ok (.iload_n 1, 1) ∧ decode prog_10_method_77_code 3 = .ok (.invokevirtual 348, 3) ∧ decode prog_10_method_77_code 6 = .ok (.ifCond .eq 7, 3) ∧ decode prog_10_method_77_code 9 = .ok (.iconst 0, 1) ∧ decode prog_10_method_77_code 10 = .ok (.goto 4, 3) ∧ decode prog_10_method_77_code 13 = .ok (.iconst 1, 1) ∧ decode prog_10_method_77_code 14 = .ok (.putfield 1, 3) ∧ decode prog_10_method_77_code 17 = .ok (.aload_n 0, 1) ∧ decode prog_10_method_77_code 18 = .ok (.getfield 1, 3) ∧ decode prog_10_method_77_code 21 = .ok (.ifCond .ne 7, 3) := by decide +kernel
theorem e1_Mm_mayModulus : decode prog_10_method_77_code 24 = .ok (.iconst 1, 1) ∧ decode prog_10_method_77_code 25 = .ok (.goto 4, 3) ∧ decode prog_10_method_77_code 28 = .ok (.iconst 0, 1) ∧ decode prog_10_method_77_code 29 = .ok (.ireturn, 1) := by decide +kernel
def T_Mm_mayModulus : TT := [(0, o_ald 0 1), (1, o_ald 0 2), (2, o_ild 1 3), (3, o_callV M_Mm_isModulus 8 2 6), (6, o_if_eq 13 9), (9, o_push (.int (iI (0))) 10), (10, o_goto 14), (13, o_push (.int (iI (1))) 14), (14, o_puti 8 0 17), (17, o_ald 0 18), (18, o_get 8 0 21), (21, o_if_ne 28 24), (24, o_push (.int (iI (1))) 25), (25, o_goto 29), (28, o_push (.int (iI (0))) 29), (29, o_zret)]
theorem k_Mm_mayModulus : ∀ x ∈ T_Mm_mayModulus, SO M_Mm_mayModulus x.1 x.2 := by
  obtain ⟨h0, h1, h2, h3, h6, h9, h10, h13, h14, h17, h18, h21⟩ := e0_Mm_mayModulus
  obtain ⟨h24, h25, h28, h29⟩ := e1_Mm_mayModulus
  refine ac (s_aldn (M := M_Mm_mayModulus) (pc := 0) (k := 0) h0) ?_
  refine ac (s_aldn (M := M_Mm_mayModulus) (pc := 1) (k := 0) h1) ?_
  refine ac (s_ildn (M := M_Mm_mayModulus) (pc := 2) (k := 1) h2) ?_
  refine ac (s_callV (M := M_Mm_mayModulus) (pc := 3) (tz_Mm rfl) h3 q_Mm_isModulus wd2083 wd2085 wd85 rfl (T := TX8) (N := 29) rfl) ?_
  refine ac (s_if_eq (M := M_Mm_mayModulus) (pc := 6) h6 (by decide)) ?_
  refine ac (s_iconst (M := M_Mm_mayModulus) (pc := 9) h9 rfl) ?_
  refine ac (s_goto (M := M_Mm_mayModulus) (pc := 10) h10 (by decide)) ?_
  refine ac (s_iconst (M := M_Mm_mayModulus) (pc := 13) h13 rfl) ?_
  refine ac (s_puti (M := M_Mm_mayModulus) (pc := 14) (T := TX8) (N := 29) (ty0 := tyX8) h14 ⟨rfl, in_X8, by decide, wd1689, tyX8_ok, nmX8, (Or.inl rfl)⟩ rfl) ?_
  refine ac (s_aldn (M := M_Mm_mayModulus) (pc := 17) (k := 0) h17) ?_
  refine ac (s_get (M := M_Mm_mayModulus) (pc := 18) (T := TX8) (N := 29) h18 rfl in_X8 (by decide) wd1689) ?_
  refine ac (s_if_ne (M := M_Mm_mayModulus) (pc := 21) h21 (by decide)) ?_
  refine ac (s_iconst (M := M_Mm_mayModulus) (pc := 24) h24 rfl) ?_
  refine ac (s_goto (M := M_Mm_mayModulus) (pc := 25) h25 (by decide)) ?_
  refine ac (s_iconst (M := M_Mm_mayModulus) (pc := 28) h28 rfl) ?_
  refine ac (s_zret (M := M_Mm_mayModulus) (pc := 29) h29 rfl) ?_
  exact ac_nil
theorem e0_Mm_isModulus : decode prog_10_method_9_code 0 = .ok (.iload_n 1, 1) ∧ decode prog_10_method_9_code 1 = .ok (.i2l, 1) ∧ decode prog_10_method_9_code 2 = .ok (.lconst 0, 1) ∧ decode prog_10_method_9_code 3 = .ok (.aload_n 0, 1) ∧ decode prog_10_method_9_code 4 = .ok (.invokevirtual 61, 3) ∧ decode prog_10_method_9_code 7 = .ok (.iconst 1, 1) ∧ decode prog_10_method_9_code 8 = .ok (.isub, 1) ∧ decode prog_10_method_9_code 9 = .ok (.i2l, 1) ∧ decode prog_10_method_9_code 10 = .ok (.invokestatic 57, 3) ∧ decode prog_10_method_9_code 13 = .ok (.ireturn, 1) := by decide +kernel
def T_Mm_isModulus : TT := [(0, o_ild 1 1), (1, o_i2l 2), (2, o_push (.long (lI 0)) 3), (3, o_ald 0 4), (4, o_callV M_Mm_many 8 1 7), (7, o_push (.int (iI (1))) 8), (8, o_isub 9), (9, o_i2l 10), (10, o_call M_Mm_isIn 3 13), (13, o_zret)]
theorem k_Mm_isModulus : ∀ x ∈ T_Mm_isModulus, SO M_Mm_isModulus x.1 x.2 := by
  obtain ⟨h0, h1, h2, h3, h4, h7, h8, h9, h10, h13⟩ := e0_Mm_isModulus
  refine ac (s_ildn (M := M_Mm_isModulus) (pc := 0) (k := 1) h0) ?_
  refine ac (s_i2l (M := M_Mm_isModulus) (pc := 1) h1) ?_
  refine ac (s_lconst (M := M_Mm_isModulus) (pc := 2) h2 (by decide)) ?_
  refine ac (s_aldn (M := M_Mm_isModulus) (pc := 3) (k := 0) h3) ?_
  refine ac (s_callV (M := M_Mm_isModulus) (pc := 4) (tz_Mm rfl) h4 q_Mm_many wd1849 wd1851 wd38 rfl (T := TX8) (N := 29) rfl) ?_
  refine ac (s_iconst (M := M_Mm_isModulus) (pc := 7) h7 rfl) ?_
  refine ac (s_isub (M := M_Mm_isModulus) (pc := 8) h8) ?_
  refine ac (s_i2l (M := M_Mm_isModulus) (pc := 9) h9) ?_
  refine ac (s_callS (M := M_Mm_isModulus) (pc := 10) (tz_Mm rfl) h10 q_Mm_isIn wd1789 wd1790) ?_
  refine ac (s_zret (M := M_Mm_isModulus) (pc := 13) h13 rfl) ?_
  exact ac_nil
theorem e0_Mm_inverse : decode prog_10_method_82_code 0 = .ok (.aload_n 0, 1) ∧ decode prog_10_method_82_code 1 = .ok (.aload_n 0, 1) ∧ decode prog_10_method_82_code 2 = .ok (.iload_n 1, 1) ∧ decode prog_10_method_82_code 3 = .ok (.invokevirtual 348, 3) ∧ decode prog_10_method_82_code 6 = .ok (.ifCond .eq 15, 3) ∧ decode prog_10_method_82_code 9 = .ok (.aload_n 0, 1) ∧ decode prog_10_method_82_code 10 = .ok (.iload_n 2, 1) ∧ decode prog_10_method_82_code 11 = .ok (.invokevirtual 348, 3) ∧ decode prog_10_method_82_code 14 = .ok (.ifCond .eq 7, 3) ∧ decode prog_10_method_82_code 17 = .ok (.iconst 0, 1) ∧ decode prog_10_method_82_code 18 = .ok (.goto 4, 3) ∧ decode prog_10_method_82_code 21 = .ok (.iconst 1, 1) := by decide +kernel
theorem e1_Mm_inverse : decode prog_10_method_82_code 22 = .ok (.putfield 1, 3) ∧ decode prog_10_method_82_code 25 = .ok (.aload_n 0, 1) ∧ decode prog_10_method_82_code 26 = .ok (.getfield 1, 3) ∧ decode prog_10_method_82_code 29 = .ok (.ifCond .ne 8, 3) ∧ decode prog_10_method_82_code 32 = .ok (.iload_n 1, 1) ∧ decode prog_10_method_82_code 33 = .ok (.iload_n 2, 1) ∧ decode prog_10_method_82_code 34 = .ok (.if_icmp .ne 5, 3) ∧ decode prog_10_method_82_code 37 = .ok (.iconst 0, 1) ∧ decode prog_10_method_82_code 38 = .ok (.ireturn, 1) ∧ decode prog_10_method_82_code 39 = .ok (.iconst 1, 1) ∧ decode prog_10_method_82_code 40 = .ok (.istore_n 3, 1) ∧ decode prog_10_method_82_code 41 = .ok (.aload_n 0, 1) := by decide +kernel
theorem e2_Mm_inverse : decode prog_10_method_82_code 42 = .ok (.iload_n 1, 1) ∧ decode prog_10_method_82_code 43 = .ok (.invokevirtual 65, 3) ∧ decode prog_10_method_82_code 46 = .ok (.iload_n 3, 1) ∧ decode prog_10_method_82_code 47 = .ok (.imul, 1) ∧ decode prog_10_method_82_code 48 = .ok (.aload_n 0, 1) ∧ decode prog_10_method_82_code 49 = .ok (.iload_n 2, 1) ∧ decode prog_10_method_82_code 50 = .ok (.invokevirtual 65, 3) ∧ decode prog_10_method_82_code 53 = .ok (.irem, 1) ∧ decode prog_10_method_82_code 54 = .ok (.iconst 1, 1) ∧ decode prog_10_method_82_code 55 = .ok (.if_icmp .eq 10, 3) ∧ decode prog_10_method_82_code 58 = .ok (.iload_n 3, 1) ∧ decode prog_10_method_82_code 59 = .ok (.iconst 1, 1) := by decide +kernel
theorem e3_Mm_inverse : decode prog_10_method_82_code 60 = .ok (.iadd, 1) ∧ decode prog_10_method_82_code 61 = .ok (.istore_n 3, 1) ∧ decode prog_10_method_82_code 62 = .ok (.goto (-21), 3) ∧ decode prog_10_method_82_code 65 = .ok (.iload_n 3, 1) ∧ decode prog_10_method_82_code 66 = .ok (.ireturn, 1) := by decide +kernel
def T_Mm_inverse : TT := [(0, o_ald 0 1), (1, o_ald 0 2), (2, o_ild 1 3), (3, o_callV M_Mm_isModulus 8 2 6), (6, o_if_eq 21 9), (9, o_ald 0 10), (10, o_ild 2 11), (11, o_callV M_Mm_isModulus 8 2 14), (14, o_if_eq 21 17), (17, o_push (.int (iI (0))) 18), (18, o_goto 22), (21, o_push (.int (iI (1))) 22), (22, o_puti 8 0 25), (25, o_ald 0 26), (26, o_get 8 0 29), (29, o_if_ne 37 32), (32, o_ild 1 33), (33, o_ild 2 34), (34, o_icmp_ne 39 37), (37, o_push (.int (iI (0))) 38), (38, o_iret), (39, o_push (.int (iI (1))) 40), (40, o_ist 3 41), (41, o_ald 0 42), (42, o_ild 1 43), (43, o_callV M_Mm_mod 8 2 46), (46, o_ild 3 47), (47, o_imul 48), (48, o_ald 0 49), (49, o_ild 2 50), (50, o_callV M_Mm_mod 8 2 53), (53, o_irem 54), (54, o_push (.int (iI (1))) 55), (55, o_icmp_eq 65 58), (58, o_ild 3 59), (59, o_push (.int (iI (1))) 60), (60, o_iadd 61), (61, o_ist 3 62), (62, o_goto 41), (65, o_ild 3 66), (66, o_iret)]
theorem k_Mm_inverse : ∀ x ∈ T_Mm_inverse, SO M_Mm_inverse x.1 x.2 := by
  obtain ⟨h0, h1, h2, h3, h6, h9, h10, h11, h14, h17, h18, h21⟩ := e0_Mm_inverse
  obtain ⟨h22, h25, h26, h29, h32, h33, h34, h37, h38, h39, h40, h41⟩ := e1_Mm_inverse
  obtain ⟨h42, h43, h46, h47, h48, h49, h50, h53, h54, h55, h58, h59⟩ := e2_Mm_inverse
  obtain ⟨h60, h61, h62, h65, h66⟩ := e3_Mm_inverse
  refine ac (s_aldn (M := M_Mm_inverse) (pc := 0) (k := 0) h0) ?_
  refine ac (s_aldn (M := M_Mm_inverse) (pc := 1) (k := 0) h1) ?_
  refine ac (s_ildn (M := M_Mm_inverse) (pc := 2) (k := 1) h2) ?_
  refine ac (s_callV (M := M_Mm_inverse) (pc := 3) (tz_Mm rfl) h3 q_Mm_isModulus wd2083 wd2085 wd85 rfl (T := TX8) (N := 29) rfl) ?_
  refine ac (s_if_eq (M := M_Mm_inverse) (pc := 6) h6 (by decide)) ?_
  refine ac (s_aldn (M := M_Mm_inverse) (pc := 9) (k := 0) h9) ?_
  refine ac (s_ildn (M := M_Mm_inverse) (pc := 10) (k := 2) h10) ?_
  refine ac (s_callV (M := M_Mm_inverse) (pc := 11) (tz_Mm rfl) h11 q_Mm_isModulus wd2083 wd2085 wd85 rfl (T := TX8) (N := 29) rfl) ?_
  refine ac (s_if_eq (M := M_Mm_inverse) (pc := 14) h14 (by decide)) ?_
  refine ac (s_iconst (M := M_Mm_inverse) (pc := 17) h17 rfl) ?_
  refine ac (s_goto (M := M_Mm_inverse) (pc := 18) h18 (by decide)) ?_
  refine ac (s_iconst (M := M_Mm_inverse) (pc := 21) h21 rfl) ?_
  refine ac (s_puti (M := M_Mm_inverse) (pc := 22) (T := TX8) (N := 29) (ty0 := tyX8) h22 ⟨rfl, in_X8, by decide, wd1689, tyX8_ok, nmX8, (Or.inl rfl)⟩ rfl) ?_
  refine ac (s_aldn (M := M_Mm_inverse) (pc := 25) (k := 0) h25) ?_
  refine ac (s_get (M := M_Mm_inverse) (pc := 26) (T := TX8) (N := 29) h26 rfl in_X8 (by decide) wd1689) ?_
  refine ac (s_if_ne (M := M_Mm_inverse) (pc := 29) h29 (by decide)) ?_
  refine ac (s_ildn (M := M_Mm_inverse) (pc := 32) (k := 1) h32) ?_
  refine ac (s_ildn (M := M_Mm_inverse) (pc := 33) (k := 2) h33) ?_
  refine ac (s_icmp_ne (M := M_Mm_inverse) (pc := 34) h34 (by decide)) ?_
  refine ac (s_iconst (M := M_Mm_inverse) (pc := 37) h37 rfl) ?_
  refine ac (s_iret (M := M_Mm_inverse) (pc := 38) h38 rfl) ?_
  refine ac (s_iconst (M := M_Mm_inverse) (pc := 39) h39 rfl) ?_
  refine ac (s_istn (M := M_Mm_inverse) (pc := 40) (k := 3) h40 (by decide)) ?_
  refine ac (s_aldn (M := M_Mm_inverse) (pc := 41) (k := 0) h41) ?_
  refine ac (s_ildn (M := M_Mm_inverse) (pc := 42) (k := 1) h42) ?_
  refine ac (s_callV (M := M_Mm_inverse) (pc := 43) (tz_Mm rfl) h43 q_Mm_mod wd1866 wd1868 wd42 rfl (T := TX8) (N := 29) rfl) ?_
  refine ac (s_ildn (M := M_Mm_inverse) (pc := 46) (k := 3) h46) ?_
  refine ac (s_imul (M := M_Mm_inverse) (pc := 47) h47) ?_
  refine ac (s_aldn (M := M_Mm_inverse) (pc := 48) (k := 0) h48) ?_
  refine ac (s_ildn (M := M_Mm_inverse) (pc := 49) (k := 2) h49) ?_
  refine ac (s_callV (M := M_Mm_inverse) (pc := 50) (tz_Mm rfl) h50 q_Mm_mod wd1866 wd1868 wd42 rfl (T := TX8) (N := 29) rfl) ?_
  refine ac (s_irem (M := M_Mm_inverse) (pc := 53) h53) ?_
  refine ac (s_iconst (M := M_Mm_inverse) (pc := 54) h54 rfl) ?_
  refine ac (s_icmp_eq (M := M_Mm_inverse) (pc := 55) h55 (by decide)) ?_
  refine ac (s_ildn (M := M_Mm_inverse) (pc := 58) (k := 3) h58) ?_
  refine ac (s_iconst (M := M_Mm_inverse) (pc := 59) h59 rfl) ?_
  refine ac (s_iadd (M := M_Mm_inverse) (pc := 60) h60) ?_
  refine ac (s_istn (M := M_Mm_inverse) (pc := 61) (k := 3) h61 (by decide)) ?_
  refine ac (s_goto (M := M_Mm_inverse) (pc := 62) h62 (by decide)) ?_
  refine ac (s_ildn (M := M_Mm_inverse) (pc := 65) (k := 3) h65) ?_
  refine ac (s_iret (M := M_Mm_inverse) (pc := 66) h66 rfl) ?_
  exact ac_nil
theorem e0_Mm_weight : decode prog_10_method_84_code 0 = .ok (.aload_n 0, 1) ∧ decode prog_10_method_84_code 1 = .ok (.iload_n 1, 1) ∧ decode prog_10_method_84_code 2 = .ok (.invokevirtual 354, 3) ∧ decode prog_10_method_84_code 5 = .ok (.ifCond .eq 11, 3) ∧ decode prog_10_method_84_code 8 = .ok (.aload_n 0, 1) ∧ decode prog_10_method_84_code 9 = .ok (.iload_n 1, 1) ∧ decode prog_10_method_84_code 10 = .ok (.invokevirtual 357, 3) ∧ decode prog_10_method_84_code 13 = .ok (.goto 4, 3) ∧ decode prog_10_method_84_code 16 = .ok (.lconst 0, 1) ∧ decode prog_10_method_84_code 17 = .ok (.lreturn, 1) := by decide +kernel
def T_Mm_weight : TT := [(0, o_ald 0 1), (1, o_ild 1 2), (2, o_callV M_Mm_mayModulus 8 2 5), (5, o_if_eq 16 8), (8, o_ald 0 9), (9, o_ild 1 10), (10, o_callV M_Mm_weightOf 8 2 13), (13, o_goto 17), (16, o_push (.long (lI 0)) 17), (17, o_lret)]
theorem k_Mm_weight : ∀ x ∈ T_Mm_weight, SO M_Mm_weight x.1 x.2 := by
  obtain ⟨h0, h1, h2, h5, h8, h9, h10, h13, h16, h17⟩ := e0_Mm_weight
  refine ac (s_aldn (M := M_Mm_weight) (pc := 0) (k := 0) h0) ?_
  refine ac (s_ildn (M := M_Mm_weight) (pc := 1) (k := 1) h1) ?_
  refine ac (s_callV (M := M_Mm_weight) (pc := 2) (tz_Mm rfl) h2 q_Mm_mayModulus wd2079 wd2081 wd84 rfl (T := TX8) (N := 29) rfl) ?_
  refine ac (s_if_eq (M := M_Mm_weight) (pc := 5) h5 (by decide)) ?_
  refine ac (s_aldn (M := M_Mm_weight) (pc := 8) (k := 0) h8) ?_
  refine ac (s_ildn (M := M_Mm_weight) (pc := 9) (k := 1) h9) ?_
  refine ac (s_callV (M := M_Mm_weight) (pc := 10) (tz_Mm rfl) h10 q_Mm_weightOf wd2095 wd2097 wd86 rfl (T := TX8) (N := 29) rfl) ?_
  refine ac (s_goto (M := M_Mm_weight) (pc := 13) h13 (by decide)) ?_
  refine ac (s_lconst (M := M_Mm_weight) (pc := 16) h16 (by decide)) ?_
  refine ac (s_lret (M := M_Mm_weight) (pc := 17) h17 rfl) ?_
  exact ac_nil
theorem e0_Mm_weightOf : decode prog_10_method_83_code 0 = .ok (.aload_n 0, 1) ∧ decode prog_10_method_83_code 1 = .ok (.invokevirtual 93, 3) ∧ decode prog_10_method_83_code 4 = .ok (.aload_n 0, 1) ∧ decode prog_10_method_83_code 5 = .ok (.iload_n 1, 1) ∧ decode prog_10_method_83_code 6 = .ok (.invokevirtual 65, 3) ∧ decode prog_10_method_83_code 9 = .ok (.i2l, 1) ∧ decode prog_10_method_83_code 10 = .ok (.ldiv, 1) ∧ decode prog_10_method_83_code 11 = .ok (.lstore_n 2, 1) ∧ decode prog_10_method_83_code 12 = .ok (.lload_n 2, 1) ∧ decode prog_10_method_83_code 13 = .ok (.lstore 4, 2) ∧ decode prog_10_method_83_code 15 = .ok (.lload 4, 2) ∧ decode prog_10_method_83_code 17 = .ok (.aload_n 0, 1) := by decide +kernel
theorem e1_Mm_weightOf : decode prog_10_method_83_code 18 = .ok (.iload_n 1, 1) ∧ decode prog_10_method_83_code 19 = .ok (.invokevirtual 65, 3) ∧ decode prog_10_method_83_code 22 = .ok (.i2l, 1) ∧ decode prog_10_method_83_code 23 = .ok (.lrem, 1) ∧ decode prog_10_method_83_code 24 = .ok (.lconst 1, 1) ∧ decode prog_10_method_83_code 25 = .ok (.lcmp, 1) ∧ decode prog_10_method_83_code 26 = .ok (.ifCond .eq 12, 3) ∧ decode prog_10_method_83_code 29 = .ok (.lload 4, 2) ∧ decode prog_10_method_83_code 31 = .ok (.lload_n 2, 1) ∧ decode prog_10_method_83_code 32 = .ok (.ladd, 1) ∧ decode prog_10_method_83_code 33 = .ok (.lstore 4, 2) ∧ decode prog_10_method_83_code 35 = .ok (.goto (-20), 3) := by decide +kernel
theorem e2_Mm_weightOf : decode prog_10_method_83_code 38 = .ok (.lload 4, 2) ∧ decode prog_10_method_83_code 40 = .ok (.lreturn, 1) := by decide +kernel
def T_Mm_weightOf : TT := [(0, o_ald 0 1), (1, o_callV M_Mm_whole 8 1 4), (4, o_ald 0 5), (5, o_ild 1 6), (6, o_callV M_Mm_mod 8 2 9), (9, o_i2l 10), (10, o_ldiv 11), (11, o_lst 2 12), (12, o_lld 2 13), (13, o_lst 4 15), (15, o_lld 4 17), (17, o_ald 0 18), (18, o_ild 1 19), (19, o_callV M_Mm_mod 8 2 22), (22, o_i2l 23), (23, o_lrem 24), (24, o_push (.long (lI 1)) 25), (25, o_lc_eq 38 29), (29, o_lld 4 31), (31, o_lld 2 32), (32, o_ladd 33), (33, o_lst 4 35), (35, o_goto 15), (38, o_lld 4 40), (40, o_lret)]
theorem k_Mm_weightOf : ∀ x ∈ T_Mm_weightOf, SO M_Mm_weightOf x.1 x.2 := by
  obtain ⟨h0, h1, h4, h5, h6, h9, h10, h11, h12, h13, h15, h17⟩ := e0_Mm_weightOf
  obtain ⟨h18, h19, h22, h23, h24, h25, h26, h29, h31, h32, h33, h35⟩ := e1_Mm_weightOf
  obtain ⟨h38, h40⟩ := e2_Mm_weightOf
  refine ac (s_aldn (M := M_Mm_weightOf) (pc := 0) (k := 0) h0) ?_
  refine ac (s_callV (M := M_Mm_weightOf) (pc := 1) (tz_Mm rfl) h1 q_Mm_whole wd1858 wd1860 wd40 rfl (T := TX8) (N := 29) rfl) ?_
  refine ac (s_aldn (M := M_Mm_weightOf) (pc := 4) (k := 0) h4) ?_
  refine ac (s_ildn (M := M_Mm_weightOf) (pc := 5) (k := 1) h5) ?_
  refine ac (s_callV (M := M_Mm_weightOf) (pc := 6) (tz_Mm rfl) h6 q_Mm_mod wd1866 wd1868 wd42 rfl (T := TX8) (N := 29) rfl) ?_
  refine ac (s_i2l (M := M_Mm_weightOf) (pc := 9) h9) ?_
  refine ac (s_ldiv (M := M_Mm_weightOf) (pc := 10) h10) ?_
  refine ac (s_lstn (M := M_Mm_weightOf) (pc := 11) (k := 2) h11 (by decide)) ?_
  refine ac (s_lldn (M := M_Mm_weightOf) (pc := 12) (k := 2) h12) ?_
  refine ac (s_lst (M := M_Mm_weightOf) (pc := 13) h13 (by decide)) ?_
  refine ac (s_lld (M := M_Mm_weightOf) (pc := 15) h15) ?_
  refine ac (s_aldn (M := M_Mm_weightOf) (pc := 17) (k := 0) h17) ?_
  refine ac (s_ildn (M := M_Mm_weightOf) (pc := 18) (k := 1) h18) ?_
  refine ac (s_callV (M := M_Mm_weightOf) (pc := 19) (tz_Mm rfl) h19 q_Mm_mod wd1866 wd1868 wd42 rfl (T := TX8) (N := 29) rfl) ?_
  refine ac (s_i2l (M := M_Mm_weightOf) (pc := 22) h22) ?_
  refine ac (s_lrem (M := M_Mm_weightOf) (pc := 23) h23) ?_
  refine ac (s_lconst (M := M_Mm_weightOf) (pc := 24) h24 (by decide)) ?_
  refine ac (s_lc_eq (M := M_Mm_weightOf) (pc := 25) h25 h26 (by decide)) ?_
  refine ac (s_lld (M := M_Mm_weightOf) (pc := 29) h29) ?_
  refine ac (s_lldn (M := M_Mm_weightOf) (pc := 31) (k := 2) h31) ?_
  refine ac (s_ladd (M := M_Mm_weightOf) (pc := 32) h32) ?_
  refine ac (s_lst (M := M_Mm_weightOf) (pc := 33) h33 (by decide)) ?_
  refine ac (s_goto (M := M_Mm_weightOf) (pc := 35) h35 (by decide)) ?_
  refine ac (s_lld (M := M_Mm_weightOf) (pc := 38) h38) ?_
  refine ac (s_lret (M := M_Mm_weightOf) (pc := 40) h40 rfl) ?_
  exact ac_nil
theorem e0_Mm_rest_II : decode prog_10_method_85_code 0 = .ok (.aload_n 0, 1) ∧ decode prog_10_method_85_code 1 = .ok (.iload_n 1, 1) ∧ decode prog_10_method_85_code 2 = .ok (.iload_n 2, 1) ∧ decode prog_10_method_85_code 3 = .ok (.invokevirtual 360, 3) ∧ decode prog_10_method_85_code 6 = .ok (.ifCond .eq 12, 3) ∧ decode prog_10_method_85_code 9 = .ok (.aload_n 0, 1) ∧ decode prog_10_method_85_code 10 = .ok (.iload_n 1, 1) ∧ decode prog_10_method_85_code 11 = .ok (.iload_n 2, 1) ∧ decode prog_10_method_85_code 12 = .ok (.invokevirtual 86, 3) ∧ decode prog_10_method_85_code 15 = .ok (.goto 4, 3) ∧ decode prog_10_method_85_code 18 = .ok (.iconst 0, 1) ∧ decode prog_10_method_85_code 19 = .ok (.ireturn, 1) := by decide +kernel
def T_Mm_rest_II : TT := [(0, o_ald 0 1), (1, o_ild 1 2), (2, o_ild 2 3), (3, o_callV M_Mm_mayBoth 8 3 6), (6, o_if_eq 18 9), (9, o_ald 0 10), (10, o_ild 1 11), (11, o_ild 2 12), (12, o_callV M_Mm_restOf 8 3 15), (15, o_goto 19), (18, o_push (.int (iI (0))) 19), (19, o_iret)]
theorem k_Mm_rest_II : ∀ x ∈ T_Mm_rest_II, SO M_Mm_rest_II x.1 x.2 := by
  obtain ⟨h0, h1, h2, h3, h6, h9, h10, h11, h12, h15, h18, h19⟩ := e0_Mm_rest_II
  refine ac (s_aldn (M := M_Mm_rest_II) (pc := 0) (k := 0) h0) ?_
  refine ac (s_ildn (M := M_Mm_rest_II) (pc := 1) (k := 1) h1) ?_
  refine ac (s_ildn (M := M_Mm_rest_II) (pc := 2) (k := 2) h2) ?_
  refine ac (s_callV (M := M_Mm_rest_II) (pc := 3) (tz_Mm rfl) h3 q_Mm_mayBoth wd2103 wd2105 wd87 rfl (T := TX8) (N := 29) rfl) ?_
  refine ac (s_if_eq (M := M_Mm_rest_II) (pc := 6) h6 (by decide)) ?_
  refine ac (s_aldn (M := M_Mm_rest_II) (pc := 9) (k := 0) h9) ?_
  refine ac (s_ildn (M := M_Mm_rest_II) (pc := 10) (k := 1) h10) ?_
  refine ac (s_ildn (M := M_Mm_rest_II) (pc := 11) (k := 2) h11) ?_
  refine ac (s_callV (M := M_Mm_rest_II) (pc := 12) (tz_Mm rfl) h12 q_Mm_restOf wd1984 wd1986 wd67 rfl (T := TX8) (N := 29) rfl) ?_
  refine ac (s_goto (M := M_Mm_rest_II) (pc := 15) h15 (by decide)) ?_
  refine ac (s_iconst (M := M_Mm_rest_II) (pc := 18) h18 rfl) ?_
  refine ac (s_iret (M := M_Mm_rest_II) (pc := 19) h19 rfl) ?_
  exact ac_nil
theorem e0_Mm_mayBoth : decode prog_10_method_79_code 0 = .ok (.aload_n 0, 1) ∧ decode prog_10_method_79_code 1 = .ok (.aload_n 0, 1) ∧ decode prog_10_method_79_code 2 = .ok (.iload_n 1, 1) ∧ decode prog_10_method_79_code 3 = .ok (.invokevirtual 351, 3) ∧ decode prog_10_method_79_code 6 = .ok (.ifCond .eq 15, 3) ∧ decode prog_10_method_79_code 9 = .ok (.aload_n 0, 1) ∧ decode prog_10_method_79_code 10 = .ok (.iload_n 2, 1) ∧ decode prog_10_method_79_code 11 = .ok (.invokevirtual 348, 3) ∧ decode prog_10_method_79_code 14 = .ok (.ifCond .eq 7, 3) ∧ decode prog_10_method_79_code 17 = .ok (.iconst 0, 1) ∧ decode prog_10_method_79_code 18 = .ok (.goto 4, 3) ∧ decode prog_10_method_79_code 21 = .ok (.iconst 1, 1) := by decide +kernel
theorem e1_Mm_mayBoth : decode prog_10_method_79_code 22 = .ok (.putfield 1, 3) ∧ decode prog_10_method_79_code 25 = .ok (.aload_n 0, 1) ∧ decode prog_10_method_79_code 26 = .ok (.getfield 1, 3) ∧ decode prog_10_method_79_code 29 = .ok (.ifCond .ne 7, 3) ∧ decode prog_10_method_79_code 32 = .ok (.iconst 1, 1) ∧ decode prog_10_method_79_code 33 = .ok (.goto 4, 3) ∧ decode prog_10_method_79_code 36 = .ok (.iconst 0, 1) ∧ decode prog_10_method_79_code 37 = .ok (.ireturn, 1) := by decide +kernel
def T_Mm_mayBoth : TT := [(0, o_ald 0 1), (1, o_ald 0 2), (2, o_ild 1 3), (3, o_callV M_Mm_isRegister 8 2 6), (6, o_if_eq 21 9), (9, o_ald 0 10), (10, o_ild 2 11), (11, o_callV M_Mm_isModulus 8 2 14), (14, o_if_eq 21 17), (17, o_push (.int (iI (0))) 18), (18, o_goto 22), (21, o_push (.int (iI (1))) 22), (22, o_puti 8 0 25), (25, o_ald 0 26), (26, o_get 8 0 29), (29, o_if_ne 36 32), (32, o_push (.int (iI (1))) 33), (33, o_goto 37), (36, o_push (.int (iI (0))) 37), (37, o_zret)]
theorem k_Mm_mayBoth : ∀ x ∈ T_Mm_mayBoth, SO M_Mm_mayBoth x.1 x.2 := by
  obtain ⟨h0, h1, h2, h3, h6, h9, h10, h11, h14, h17, h18, h21⟩ := e0_Mm_mayBoth
  obtain ⟨h22, h25, h26, h29, h32, h33, h36, h37⟩ := e1_Mm_mayBoth
  refine ac (s_aldn (M := M_Mm_mayBoth) (pc := 0) (k := 0) h0) ?_
  refine ac (s_aldn (M := M_Mm_mayBoth) (pc := 1) (k := 0) h1) ?_
  refine ac (s_ildn (M := M_Mm_mayBoth) (pc := 2) (k := 1) h2) ?_
  refine ac (s_callV (M := M_Mm_mayBoth) (pc := 3) (tz_Mm rfl) h3 q_Mm_isRegister wd2107 wd2109 wd88 rfl (T := TX8) (N := 29) rfl) ?_
  refine ac (s_if_eq (M := M_Mm_mayBoth) (pc := 6) h6 (by decide)) ?_
  refine ac (s_aldn (M := M_Mm_mayBoth) (pc := 9) (k := 0) h9) ?_
  refine ac (s_ildn (M := M_Mm_mayBoth) (pc := 10) (k := 2) h10) ?_
  refine ac (s_callV (M := M_Mm_mayBoth) (pc := 11) (tz_Mm rfl) h11 q_Mm_isModulus wd2083 wd2085 wd85 rfl (T := TX8) (N := 29) rfl) ?_
  refine ac (s_if_eq (M := M_Mm_mayBoth) (pc := 14) h14 (by decide)) ?_
  refine ac (s_iconst (M := M_Mm_mayBoth) (pc := 17) h17 rfl) ?_
  refine ac (s_goto (M := M_Mm_mayBoth) (pc := 18) h18 (by decide)) ?_
  refine ac (s_iconst (M := M_Mm_mayBoth) (pc := 21) h21 rfl) ?_
  refine ac (s_puti (M := M_Mm_mayBoth) (pc := 22) (T := TX8) (N := 29) (ty0 := tyX8) h22 ⟨rfl, in_X8, by decide, wd1689, tyX8_ok, nmX8, (Or.inl rfl)⟩ rfl) ?_
  refine ac (s_aldn (M := M_Mm_mayBoth) (pc := 25) (k := 0) h25) ?_
  refine ac (s_get (M := M_Mm_mayBoth) (pc := 26) (T := TX8) (N := 29) h26 rfl in_X8 (by decide) wd1689) ?_
  refine ac (s_if_ne (M := M_Mm_mayBoth) (pc := 29) h29 (by decide)) ?_
  refine ac (s_iconst (M := M_Mm_mayBoth) (pc := 32) h32 rfl) ?_
  refine ac (s_goto (M := M_Mm_mayBoth) (pc := 33) h33 (by decide)) ?_
  refine ac (s_iconst (M := M_Mm_mayBoth) (pc := 36) h36 rfl) ?_
  refine ac (s_zret (M := M_Mm_mayBoth) (pc := 37) h37 rfl) ?_
  exact ac_nil
theorem e0_Mm_isRegister : decode prog_10_method_8_code 0 = .ok (.iload_n 1, 1) ∧ decode prog_10_method_8_code 1 = .ok (.i2l, 1) ∧ decode prog_10_method_8_code 2 = .ok (.lconst 0, 1) ∧ decode prog_10_method_8_code 3 = .ok (.ldc2_w 55, 3) ∧ decode prog_10_method_8_code 6 = .ok (.invokestatic 57, 3) ∧ decode prog_10_method_8_code 9 = .ok (.ireturn, 1) := by decide +kernel
def T_Mm_isRegister : TT := [(0, o_ild 1 1), (1, o_i2l 2), (2, o_push (.long (lI 0)) 3), (3, o_push (.long (lI (7))) 6), (6, o_call M_Mm_isIn 3 9), (9, o_zret)]
theorem k_Mm_isRegister : ∀ x ∈ T_Mm_isRegister, SO M_Mm_isRegister x.1 x.2 := by
  obtain ⟨h0, h1, h2, h3, h6, h9⟩ := e0_Mm_isRegister
  refine ac (s_ildn (M := M_Mm_isRegister) (pc := 0) (k := 1) h0) ?_
  refine ac (s_i2l (M := M_Mm_isRegister) (pc := 1) h1) ?_
  refine ac (s_lconst (M := M_Mm_isRegister) (pc := 2) h2 (by decide)) ?_
  refine ac (s_ldc2 (M := M_Mm_isRegister) (pc := 3) h3 wd2070) ?_
  refine ac (s_callS (M := M_Mm_isRegister) (pc := 6) (tz_Mm rfl) h6 q_Mm_isIn wd1789 wd1790) ?_
  refine ac (s_zret (M := M_Mm_isRegister) (pc := 9) h9 rfl) ?_
  exact ac_nil
theorem e0_Mm_digit : decode prog_10_method_86_code 0 = .ok (.aload_n 0, 1) ∧ decode prog_10_method_86_code 1 = .ok (.iload_n 1, 1) ∧ decode prog_10_method_86_code 2 = .ok (.iload_n 2, 1) ∧ decode prog_10_method_86_code 3 = .ok (.invokevirtual 360, 3) ∧ decode prog_10_method_86_code 6 = .ok (.ifCond .eq 25, 3) ∧ decode prog_10_method_86_code 9 = .ok (.aload_n 0, 1) ∧ decode prog_10_method_86_code 10 = .ok (.iload_n 1, 1) ∧ decode prog_10_method_86_code 11 = .ok (.invokevirtual 90, 3) ∧ decode prog_10_method_86_code 14 = .ok (.aload_n 0, 1) ∧ decode prog_10_method_86_code 15 = .ok (.iload_n 2, 1) ∧ decode prog_10_method_86_code 16 = .ok (.invokevirtual 69, 3) ∧ decode prog_10_method_86_code 19 = .ok (.ldiv, 1) := by decide +kernel
theorem e1_Mm_digit : decode prog_10_method_86_code 20 = .ok (.aload_n 0, 1) ∧ decode prog_10_method_86_code 21 = .ok (.iload_n 2, 1) ∧ decode prog_10_method_86_code 22 = .ok (.invokevirtual 65, 3) ∧ decode prog_10_method_86_code 25 = .ok (.i2l, 1) ∧ decode prog_10_method_86_code 26 = .ok (.lrem, 1) ∧ decode prog_10_method_86_code 27 = .ok (.l2i, 1) ∧ decode prog_10_method_86_code 28 = .ok (.goto 4, 3) ∧ decode prog_10_method_86_code 31 = .ok (.iconst 0, 1) ∧ decode prog_10_method_86_code 32 = .ok (.ireturn, 1) := by decide +kernel
def T_Mm_digit : TT := [(0, o_ald 0 1), (1, o_ild 1 2), (2, o_ild 2 3), (3, o_callV M_Mm_mayBoth 8 3 6), (6, o_if_eq 31 9), (9, o_ald 0 10), (10, o_ild 1 11), (11, o_callV M_Mm_valueOf 8 2 14), (14, o_ald 0 15), (15, o_ild 2 16), (16, o_callV M_Mm_productOf 8 2 19), (19, o_ldiv 20), (20, o_ald 0 21), (21, o_ild 2 22), (22, o_callV M_Mm_mod 8 2 25), (25, o_i2l 26), (26, o_lrem 27), (27, o_l2i 28), (28, o_goto 32), (31, o_push (.int (iI (0))) 32), (32, o_iret)]
theorem k_Mm_digit : ∀ x ∈ T_Mm_digit, SO M_Mm_digit x.1 x.2 := by
  obtain ⟨h0, h1, h2, h3, h6, h9, h10, h11, h14, h15, h16, h19⟩ := e0_Mm_digit
  obtain ⟨h20, h21, h22, h25, h26, h27, h28, h31, h32⟩ := e1_Mm_digit
  refine ac (s_aldn (M := M_Mm_digit) (pc := 0) (k := 0) h0) ?_
  refine ac (s_ildn (M := M_Mm_digit) (pc := 1) (k := 1) h1) ?_
  refine ac (s_ildn (M := M_Mm_digit) (pc := 2) (k := 2) h2) ?_
  refine ac (s_callV (M := M_Mm_digit) (pc := 3) (tz_Mm rfl) h3 q_Mm_mayBoth wd2103 wd2105 wd87 rfl (T := TX8) (N := 29) rfl) ?_
  refine ac (s_if_eq (M := M_Mm_digit) (pc := 6) h6 (by decide)) ?_
  refine ac (s_aldn (M := M_Mm_digit) (pc := 9) (k := 0) h9) ?_
  refine ac (s_ildn (M := M_Mm_digit) (pc := 10) (k := 1) h10) ?_
  refine ac (s_callV (M := M_Mm_digit) (pc := 11) (tz_Mm rfl) h11 q_Mm_valueOf wd1996 wd1998 wd70 rfl (T := TX8) (N := 29) rfl) ?_
  refine ac (s_aldn (M := M_Mm_digit) (pc := 14) (k := 0) h14) ?_
  refine ac (s_ildn (M := M_Mm_digit) (pc := 15) (k := 2) h15) ?_
  refine ac (s_callV (M := M_Mm_digit) (pc := 16) (tz_Mm rfl) h16 q_Mm_productOf wd1862 wd1864 wd41 rfl (T := TX8) (N := 29) rfl) ?_
  refine ac (s_ldiv (M := M_Mm_digit) (pc := 19) h19) ?_
  refine ac (s_aldn (M := M_Mm_digit) (pc := 20) (k := 0) h20) ?_
  refine ac (s_ildn (M := M_Mm_digit) (pc := 21) (k := 2) h21) ?_
  refine ac (s_callV (M := M_Mm_digit) (pc := 22) (tz_Mm rfl) h22 q_Mm_mod wd1866 wd1868 wd42 rfl (T := TX8) (N := 29) rfl) ?_
  refine ac (s_i2l (M := M_Mm_digit) (pc := 25) h25) ?_
  refine ac (s_lrem (M := M_Mm_digit) (pc := 26) h26) ?_
  refine ac (s_l2i (M := M_Mm_digit) (pc := 27) h27) ?_
  refine ac (s_goto (M := M_Mm_digit) (pc := 28) h28 (by decide)) ?_
  refine ac (s_iconst (M := M_Mm_digit) (pc := 31) h31 rfl) ?_
  refine ac (s_iret (M := M_Mm_digit) (pc := 32) h32 rfl) ?_
  exact ac_nil
theorem e0_Mm_part : decode prog_10_method_88_code 0 = .ok (.aload_n 0, 1) ∧ decode prog_10_method_88_code 1 = .ok (.iload_n 1, 1) ∧ decode prog_10_method_88_code 2 = .ok (.iload_n 2, 1) ∧ decode prog_10_method_88_code 3 = .ok (.invokevirtual 360, 3) ∧ decode prog_10_method_88_code 6 = .ok (.ifCond .eq 12, 3) ∧ decode prog_10_method_88_code 9 = .ok (.aload_n 0, 1) ∧ decode prog_10_method_88_code 10 = .ok (.iload_n 1, 1) ∧ decode prog_10_method_88_code 11 = .ok (.iload_n 2, 1) ∧ decode prog_10_method_88_code 12 = .ok (.invokevirtual 364, 3) ∧ decode prog_10_method_88_code 15 = .ok (.goto 4, 3) ∧ decode prog_10_method_88_code 18 = .ok (.lconst 0, 1) ∧ decode prog_10_method_88_code 19 = .ok (.lreturn, 1) := by decide +kernel
def T_Mm_part : TT := [(0, o_ald 0 1), (1, o_ild 1 2), (2, o_ild 2 3), (3, o_callV M_Mm_mayBoth 8 3 6), (6, o_if_eq 18 9), (9, o_ald 0 10), (10, o_ild 1 11), (11, o_ild 2 12), (12, o_callV M_Mm_partOf 8 3 15), (15, o_goto 19), (18, o_push (.long (lI 0)) 19), (19, o_lret)]
theorem k_Mm_part : ∀ x ∈ T_Mm_part, SO M_Mm_part x.1 x.2 := by
  obtain ⟨h0, h1, h2, h3, h6, h9, h10, h11, h12, h15, h18, h19⟩ := e0_Mm_part
  refine ac (s_aldn (M := M_Mm_part) (pc := 0) (k := 0) h0) ?_
  refine ac (s_ildn (M := M_Mm_part) (pc := 1) (k := 1) h1) ?_
  refine ac (s_ildn (M := M_Mm_part) (pc := 2) (k := 2) h2) ?_
  refine ac (s_callV (M := M_Mm_part) (pc := 3) (tz_Mm rfl) h3 q_Mm_mayBoth wd2103 wd2105 wd87 rfl (T := TX8) (N := 29) rfl) ?_
  refine ac (s_if_eq (M := M_Mm_part) (pc := 6) h6 (by decide)) ?_
  refine ac (s_aldn (M := M_Mm_part) (pc := 9) (k := 0) h9) ?_
  refine ac (s_ildn (M := M_Mm_part) (pc := 10) (k := 1) h10) ?_
  refine ac (s_ildn (M := M_Mm_part) (pc := 11) (k := 2) h11) ?_
  refine ac (s_callV (M := M_Mm_part) (pc := 12) (tz_Mm rfl) h12 q_Mm_partOf wd2119 wd2121 wd89 rfl (T := TX8) (N := 29) rfl) ?_
  refine ac (s_goto (M := M_Mm_part) (pc := 15) h15 (by decide)) ?_
  refine ac (s_lconst (M := M_Mm_part) (pc := 18) h18 (by decide)) ?_
  refine ac (s_lret (M := M_Mm_part) (pc := 19) h19 rfl) ?_
  exact ac_nil
theorem e0_Mm_partOf : decode prog_10_method_87_code 0 = .ok (.aload_n 0, 1) ∧ decode prog_10_method_87_code 1 = .ok (.invokevirtual 93, 3) ∧ decode prog_10_method_87_code 4 = .ok (.aload_n 0, 1) ∧ decode prog_10_method_87_code 5 = .ok (.iload_n 2, 1) ∧ decode prog_10_method_87_code 6 = .ok (.invokevirtual 65, 3) ∧ decode prog_10_method_87_code 9 = .ok (.i2l, 1) ∧ decode prog_10_method_87_code 10 = .ok (.ldiv, 1) ∧ decode prog_10_method_87_code 11 = .ok (.lstore_n 3, 1) ∧ decode prog_10_method_87_code 12 = .ok (.lconst 0, 1) ∧ decode prog_10_method_87_code 13 = .ok (.lstore 5, 2) ∧ decode prog_10_method_87_code 15 = .ok (.lload 5, 2) ∧ decode prog_10_method_87_code 17 = .ok (.aload_n 0, 1) := by decide +kernel
theorem e1_Mm_partOf : decode prog_10_method_87_code 18 = .ok (.iload_n 2, 1) ∧ decode prog_10_method_87_code 19 = .ok (.invokevirtual 65, 3) ∧ decode prog_10_method_87_code 22 = .ok (.i2l, 1) ∧ decode prog_10_method_87_code 23 = .ok (.lrem, 1) ∧ decode prog_10_method_87_code 24 = .ok (.aload_n 0, 1) ∧ decode prog_10_method_87_code 25 = .ok (.iload_n 1, 1) ∧ decode prog_10_method_87_code 26 = .ok (.iload_n 2, 1) ∧ decode prog_10_method_87_code 27 = .ok (.invokevirtual 86, 3) ∧ decode prog_10_method_87_code 30 = .ok (.i2l, 1) ∧ decode prog_10_method_87_code 31 = .ok (.lcmp, 1) ∧ decode prog_10_method_87_code 32 = .ok (.ifCond .eq 12, 3) ∧ decode prog_10_method_87_code 35 = .ok (.lload 5, 2) := by decide +kernel
theorem e2_Mm_partOf : decode prog_10_method_87_code 37 = .ok (.lload_n 3, 1) ∧ decode prog_10_method_87_code 38 = .ok (.ladd, 1) ∧ decode prog_10_method_87_code 39 = .ok (.lstore 5, 2) ∧ decode prog_10_method_87_code 41 = .ok (.goto (-26), 3) ∧ decode prog_10_method_87_code 44 = .ok (.lload 5, 2) ∧ decode prog_10_method_87_code 46 = .ok (.lreturn, 1) := by decide +kernel
def T_Mm_partOf : TT := [(0, o_ald 0 1), (1, o_callV M_Mm_whole 8 1 4), (4, o_ald 0 5), (5, o_ild 2 6), (6, o_callV M_Mm_mod 8 2 9), (9, o_i2l 10), (10, o_ldiv 11), (11, o_lst 3 12), (12, o_push (.long (lI 0)) 13), (13, o_lst 5 15), (15, o_lld 5 17), (17, o_ald 0 18), (18, o_ild 2 19), (19, o_callV M_Mm_mod 8 2 22), (22, o_i2l 23), (23, o_lrem 24), (24, o_ald 0 25), (25, o_ild 1 26), (26, o_ild 2 27), (27, o_callV M_Mm_restOf 8 3 30), (30, o_i2l 31), (31, o_lc_eq 44 35), (35, o_lld 5 37), (37, o_lld 3 38), (38, o_ladd 39), (39, o_lst 5 41), (41, o_goto 15), (44, o_lld 5 46), (46, o_lret)]
theorem k_Mm_partOf : ∀ x ∈ T_Mm_partOf, SO M_Mm_partOf x.1 x.2 := by
  obtain ⟨h0, h1, h4, h5, h6, h9, h10, h11, h12, h13, h15, h17⟩ := e0_Mm_partOf
  obtain ⟨h18, h19, h22, h23, h24, h25, h26, h27, h30, h31, h32, h35⟩ := e1_Mm_partOf
  obtain ⟨h37, h38, h39, h41, h44, h46⟩ := e2_Mm_partOf
  refine ac (s_aldn (M := M_Mm_partOf) (pc := 0) (k := 0) h0) ?_
  refine ac (s_callV (M := M_Mm_partOf) (pc := 1) (tz_Mm rfl) h1 q_Mm_whole wd1858 wd1860 wd40 rfl (T := TX8) (N := 29) rfl) ?_
  refine ac (s_aldn (M := M_Mm_partOf) (pc := 4) (k := 0) h4) ?_
  refine ac (s_ildn (M := M_Mm_partOf) (pc := 5) (k := 2) h5) ?_
  refine ac (s_callV (M := M_Mm_partOf) (pc := 6) (tz_Mm rfl) h6 q_Mm_mod wd1866 wd1868 wd42 rfl (T := TX8) (N := 29) rfl) ?_
  refine ac (s_i2l (M := M_Mm_partOf) (pc := 9) h9) ?_
  refine ac (s_ldiv (M := M_Mm_partOf) (pc := 10) h10) ?_
  refine ac (s_lstn (M := M_Mm_partOf) (pc := 11) (k := 3) h11 (by decide)) ?_
  refine ac (s_lconst (M := M_Mm_partOf) (pc := 12) h12 (by decide)) ?_
  refine ac (s_lst (M := M_Mm_partOf) (pc := 13) h13 (by decide)) ?_
  refine ac (s_lld (M := M_Mm_partOf) (pc := 15) h15) ?_
  refine ac (s_aldn (M := M_Mm_partOf) (pc := 17) (k := 0) h17) ?_
  refine ac (s_ildn (M := M_Mm_partOf) (pc := 18) (k := 2) h18) ?_
  refine ac (s_callV (M := M_Mm_partOf) (pc := 19) (tz_Mm rfl) h19 q_Mm_mod wd1866 wd1868 wd42 rfl (T := TX8) (N := 29) rfl) ?_
  refine ac (s_i2l (M := M_Mm_partOf) (pc := 22) h22) ?_
  refine ac (s_lrem (M := M_Mm_partOf) (pc := 23) h23) ?_
  refine ac (s_aldn (M := M_Mm_partOf) (pc := 24) (k := 0) h24) ?_
  refine ac (s_ildn (M := M_Mm_partOf) (pc := 25) (k := 1) h25) ?_
  refine ac (s_ildn (M := M_Mm_partOf) (pc := 26) (k := 2) h26) ?_
  refine ac (s_callV (M := M_Mm_partOf) (pc := 27) (tz_Mm rfl) h27 q_Mm_restOf wd1984 wd1986 wd67 rfl (T := TX8) (N := 29) rfl) ?_
  refine ac (s_i2l (M := M_Mm_partOf) (pc := 30) h30) ?_
  refine ac (s_lc_eq (M := M_Mm_partOf) (pc := 31) h31 h32 (by decide)) ?_
  refine ac (s_lld (M := M_Mm_partOf) (pc := 35) h35) ?_
  refine ac (s_lldn (M := M_Mm_partOf) (pc := 37) (k := 3) h37) ?_
  refine ac (s_ladd (M := M_Mm_partOf) (pc := 38) h38) ?_
  refine ac (s_lst (M := M_Mm_partOf) (pc := 39) h39 (by decide)) ?_
  refine ac (s_goto (M := M_Mm_partOf) (pc := 41) h41 (by decide)) ?_
  refine ac (s_lld (M := M_Mm_partOf) (pc := 44) h44) ?_
  refine ac (s_lret (M := M_Mm_partOf) (pc := 46) h46 rfl) ?_
  exact ac_nil
theorem e0_Mm_rank : decode prog_10_method_90_code 0 = .ok (.aload_n 0, 1) ∧ decode prog_10_method_90_code 1 = .ok (.iload_n 1, 1) ∧ decode prog_10_method_90_code 2 = .ok (.invokevirtual 368, 3) ∧ decode prog_10_method_90_code 5 = .ok (.ifCond .eq 23, 3) ∧ decode prog_10_method_90_code 8 = .ok (.aload_n 0, 1) ∧ decode prog_10_method_90_code 9 = .ok (.iload_n 1, 1) ∧ decode prog_10_method_90_code 10 = .ok (.invokevirtual 371, 3) ∧ decode prog_10_method_90_code 13 = .ok (.aload_n 0, 1) ∧ decode prog_10_method_90_code 14 = .ok (.iload_n 1, 1) ∧ decode prog_10_method_90_code 15 = .ok (.invokevirtual 90, 3) ∧ decode prog_10_method_90_code 18 = .ok (.lsub, 1) ∧ decode prog_10_method_90_code 19 = .ok (.aload_n 0, 1) := by decide +kernel
theorem e1_Mm_rank : decode prog_10_method_90_code 20 = .ok (.invokevirtual 93, 3) ∧ decode prog_10_method_90_code 23 = .ok (.ldiv, 1) ∧ decode prog_10_method_90_code 24 = .ok (.l2i, 1) ∧ decode prog_10_method_90_code 25 = .ok (.goto 4, 3) ∧ decode prog_10_method_90_code 28 = .ok (.iconst 0, 1) ∧ decode prog_10_method_90_code 29 = .ok (.ireturn, 1) := by decide +kernel
def T_Mm_rank : TT := [(0, o_ald 0 1), (1, o_ild 1 2), (2, o_callV M_Mm_mayRegister 8 2 5), (5, o_if_eq 28 8), (8, o_ald 0 9), (9, o_ild 1 10), (10, o_callV M_Mm_partsOf 8 2 13), (13, o_ald 0 14), (14, o_ild 1 15), (15, o_callV M_Mm_valueOf 8 2 18), (18, o_lsub 19), (19, o_ald 0 20), (20, o_callV M_Mm_whole 8 1 23), (23, o_ldiv 24), (24, o_l2i 25), (25, o_goto 29), (28, o_push (.int (iI (0))) 29), (29, o_iret)]
theorem k_Mm_rank : ∀ x ∈ T_Mm_rank, SO M_Mm_rank x.1 x.2 := by
  obtain ⟨h0, h1, h2, h5, h8, h9, h10, h13, h14, h15, h18, h19⟩ := e0_Mm_rank
  obtain ⟨h20, h23, h24, h25, h28, h29⟩ := e1_Mm_rank
  refine ac (s_aldn (M := M_Mm_rank) (pc := 0) (k := 0) h0) ?_
  refine ac (s_ildn (M := M_Mm_rank) (pc := 1) (k := 1) h1) ?_
  refine ac (s_callV (M := M_Mm_rank) (pc := 2) (tz_Mm rfl) h2 q_Mm_mayRegister wd2127 wd2129 wd90 rfl (T := TX8) (N := 29) rfl) ?_
  refine ac (s_if_eq (M := M_Mm_rank) (pc := 5) h5 (by decide)) ?_
  refine ac (s_aldn (M := M_Mm_rank) (pc := 8) (k := 0) h8) ?_
  refine ac (s_ildn (M := M_Mm_rank) (pc := 9) (k := 1) h9) ?_
  refine ac (s_callV (M := M_Mm_rank) (pc := 10) (tz_Mm rfl) h10 q_Mm_partsOf wd2131 wd2133 wd91 rfl (T := TX8) (N := 29) rfl) ?_
  refine ac (s_aldn (M := M_Mm_rank) (pc := 13) (k := 0) h13) ?_
  refine ac (s_ildn (M := M_Mm_rank) (pc := 14) (k := 1) h14) ?_
  refine ac (s_callV (M := M_Mm_rank) (pc := 15) (tz_Mm rfl) h15 q_Mm_valueOf wd1996 wd1998 wd70 rfl (T := TX8) (N := 29) rfl) ?_
  refine ac (s_lsub (M := M_Mm_rank) (pc := 18) h18) ?_
  refine ac (s_aldn (M := M_Mm_rank) (pc := 19) (k := 0) h19) ?_
  refine ac (s_callV (M := M_Mm_rank) (pc := 20) (tz_Mm rfl) h20 q_Mm_whole wd1858 wd1860 wd40 rfl (T := TX8) (N := 29) rfl) ?_
  refine ac (s_ldiv (M := M_Mm_rank) (pc := 23) h23) ?_
  refine ac (s_l2i (M := M_Mm_rank) (pc := 24) h24) ?_
  refine ac (s_goto (M := M_Mm_rank) (pc := 25) h25 (by decide)) ?_
  refine ac (s_iconst (M := M_Mm_rank) (pc := 28) h28 rfl) ?_
  refine ac (s_iret (M := M_Mm_rank) (pc := 29) h29 rfl) ?_
  exact ac_nil
theorem e0_Mm_mayRegister : decode prog_10_method_78_code 0 = .ok (.aload_n 0, 1) ∧ decode prog_10_method_78_code 1 = .ok (.aload_n 0, 1) ∧ decode prog_10_method_78_code 2 = .ok (.iload_n 1, 1) ∧ decode prog_10_method_78_code 3 = .ok (.invokevirtual 351, 3) ∧ decode prog_10_method_78_code 6 = .ok (.ifCond .eq 7, 3) ∧ decode prog_10_method_78_code 9 = .ok (.iconst 0, 1) ∧ decode prog_10_method_78_code 10 = .ok (.goto 4, 3) ∧ decode prog_10_method_78_code 13 = .ok (.iconst 1, 1) ∧ decode prog_10_method_78_code 14 = .ok (.putfield 1, 3) ∧ decode prog_10_method_78_code 17 = .ok (.aload_n 0, 1) ∧ decode prog_10_method_78_code 18 = .ok (.getfield 1, 3) ∧ decode prog_10_method_78_code 21 = .ok (.ifCond .ne 7, 3) := by decide +kernel
theorem e1_Mm_mayRegister : decode prog_10_method_78_code 24 = .ok (.iconst 1, 1) ∧ decode prog_10_method_78_code 25 = .ok (.goto 4, 3) ∧ decode prog_10_method_78_code 28 = .ok (.iconst 0, 1) ∧ decode prog_10_method_78_code 29 = .ok (.ireturn, 1) := by decide +kernel
def T_Mm_mayRegister : TT := [(0, o_ald 0 1), (1, o_ald 0 2), (2, o_ild 1 3), (3, o_callV M_Mm_isRegister 8 2 6), (6, o_if_eq 13 9), (9, o_push (.int (iI (0))) 10), (10, o_goto 14), (13, o_push (.int (iI (1))) 14), (14, o_puti 8 0 17), (17, o_ald 0 18), (18, o_get 8 0 21), (21, o_if_ne 28 24), (24, o_push (.int (iI (1))) 25), (25, o_goto 29), (28, o_push (.int (iI (0))) 29), (29, o_zret)]
theorem k_Mm_mayRegister : ∀ x ∈ T_Mm_mayRegister, SO M_Mm_mayRegister x.1 x.2 := by
  obtain ⟨h0, h1, h2, h3, h6, h9, h10, h13, h14, h17, h18, h21⟩ := e0_Mm_mayRegister
  obtain ⟨h24, h25, h28, h29⟩ := e1_Mm_mayRegister
  refine ac (s_aldn (M := M_Mm_mayRegister) (pc := 0) (k := 0) h0) ?_
  refine ac (s_aldn (M := M_Mm_mayRegister) (pc := 1) (k := 0) h1) ?_
  refine ac (s_ildn (M := M_Mm_mayRegister) (pc := 2) (k := 1) h2) ?_
  refine ac (s_callV (M := M_Mm_mayRegister) (pc := 3) (tz_Mm rfl) h3 q_Mm_isRegister wd2107 wd2109 wd88 rfl (T := TX8) (N := 29) rfl) ?_
  refine ac (s_if_eq (M := M_Mm_mayRegister) (pc := 6) h6 (by decide)) ?_
  refine ac (s_iconst (M := M_Mm_mayRegister) (pc := 9) h9 rfl) ?_
  refine ac (s_goto (M := M_Mm_mayRegister) (pc := 10) h10 (by decide)) ?_
  refine ac (s_iconst (M := M_Mm_mayRegister) (pc := 13) h13 rfl) ?_
  refine ac (s_puti (M := M_Mm_mayRegister) (pc := 14) (T := TX8) (N := 29) (ty0 := tyX8) h14 ⟨rfl, in_X8, by decide, wd1689, tyX8_ok, nmX8, (Or.inl rfl)⟩ rfl) ?_
  refine ac (s_aldn (M := M_Mm_mayRegister) (pc := 17) (k := 0) h17) ?_
  refine ac (s_get (M := M_Mm_mayRegister) (pc := 18) (T := TX8) (N := 29) h18 rfl in_X8 (by decide) wd1689) ?_
  refine ac (s_if_ne (M := M_Mm_mayRegister) (pc := 21) h21 (by decide)) ?_
  refine ac (s_iconst (M := M_Mm_mayRegister) (pc := 24) h24 rfl) ?_
  refine ac (s_goto (M := M_Mm_mayRegister) (pc := 25) h25 (by decide)) ?_
  refine ac (s_iconst (M := M_Mm_mayRegister) (pc := 28) h28 rfl) ?_
  refine ac (s_zret (M := M_Mm_mayRegister) (pc := 29) h29 rfl) ?_
  exact ac_nil
theorem e0_Mm_partsOf : decode prog_10_method_89_code 0 = .ok (.lconst 0, 1) ∧ decode prog_10_method_89_code 1 = .ok (.lstore_n 2, 1) ∧ decode prog_10_method_89_code 2 = .ok (.iconst 0, 1) ∧ decode prog_10_method_89_code 3 = .ok (.istore 4, 2) ∧ decode prog_10_method_89_code 5 = .ok (.iload 4, 2) ∧ decode prog_10_method_89_code 7 = .ok (.aload_n 0, 1) ∧ decode prog_10_method_89_code 8 = .ok (.invokevirtual 61, 3) ∧ decode prog_10_method_89_code 11 = .ok (.if_icmp .ge 19, 3) ∧ decode prog_10_method_89_code 14 = .ok (.lload_n 2, 1) ∧ decode prog_10_method_89_code 15 = .ok (.aload_n 0, 1) ∧ decode prog_10_method_89_code 16 = .ok (.iload_n 1, 1) ∧ decode prog_10_method_89_code 17 = .ok (.iload 4, 2) := by decide +kernel
theorem e1_Mm_partsOf : decode prog_10_method_89_code 19 = .ok (.invokevirtual 364, 3) ∧ decode prog_10_method_89_code 22 = .ok (.ladd, 1) ∧ decode prog_10_method_89_code 23 = .ok (.lstore_n 2, 1) ∧ decode prog_10_method_89_code 24 = .ok (.iinc 4 1, 3) ∧ decode prog_10_method_89_code 27 = .ok (.goto (-22), 3) ∧ decode prog_10_method_89_code 30 = .ok (.lload_n 2, 1) ∧ decode prog_10_method_89_code 31 = .ok (.lreturn, 1) := by decide +kernel
def T_Mm_partsOf : TT := [(0, o_push (.long (lI 0)) 1), (1, o_lst 2 2), (2, o_push (.int (iI (0))) 3), (3, o_ist 4 5), (5, o_ild 4 7), (7, o_ald 0 8), (8, o_callV M_Mm_many 8 1 11), (11, o_icmp_ge 30 14), (14, o_lld 2 15), (15, o_ald 0 16), (16, o_ild 1 17), (17, o_ild 4 19), (19, o_callV M_Mm_partOf 8 3 22), (22, o_ladd 23), (23, o_lst 2 24), (24, o_iinc 4 (iI (1)) 27), (27, o_goto 5), (30, o_lld 2 31), (31, o_lret)]
theorem k_Mm_partsOf : ∀ x ∈ T_Mm_partsOf, SO M_Mm_partsOf x.1 x.2 := by
  obtain ⟨h0, h1, h2, h3, h5, h7, h8, h11, h14, h15, h16, h17⟩ := e0_Mm_partsOf
  obtain ⟨h19, h22, h23, h24, h27, h30, h31⟩ := e1_Mm_partsOf
  refine ac (s_lconst (M := M_Mm_partsOf) (pc := 0) h0 (by decide)) ?_
  refine ac (s_lstn (M := M_Mm_partsOf) (pc := 1) (k := 2) h1 (by decide)) ?_
  refine ac (s_iconst (M := M_Mm_partsOf) (pc := 2) h2 rfl) ?_
  refine ac (s_ist (M := M_Mm_partsOf) (pc := 3) h3 (by decide)) ?_
  refine ac (s_ild (M := M_Mm_partsOf) (pc := 5) h5) ?_
  refine ac (s_aldn (M := M_Mm_partsOf) (pc := 7) (k := 0) h7) ?_
  refine ac (s_callV (M := M_Mm_partsOf) (pc := 8) (tz_Mm rfl) h8 q_Mm_many wd1849 wd1851 wd38 rfl (T := TX8) (N := 29) rfl) ?_
  refine ac (s_icmp_ge (M := M_Mm_partsOf) (pc := 11) h11 (by decide)) ?_
  refine ac (s_lldn (M := M_Mm_partsOf) (pc := 14) (k := 2) h14) ?_
  refine ac (s_aldn (M := M_Mm_partsOf) (pc := 15) (k := 0) h15) ?_
  refine ac (s_ildn (M := M_Mm_partsOf) (pc := 16) (k := 1) h16) ?_
  refine ac (s_ild (M := M_Mm_partsOf) (pc := 17) h17) ?_
  refine ac (s_callV (M := M_Mm_partsOf) (pc := 19) (tz_Mm rfl) h19 q_Mm_partOf wd2119 wd2121 wd89 rfl (T := TX8) (N := 29) rfl) ?_
  refine ac (s_ladd (M := M_Mm_partsOf) (pc := 22) h22) ?_
  refine ac (s_lstn (M := M_Mm_partsOf) (pc := 23) (k := 2) h23 (by decide)) ?_
  refine ac (s_iinc (M := M_Mm_partsOf) (pc := 24) h24 rfl (by decide)) ?_
  refine ac (s_goto (M := M_Mm_partsOf) (pc := 27) h27 (by decide)) ?_
  refine ac (s_lldn (M := M_Mm_partsOf) (pc := 30) (k := 2) h30) ?_
  refine ac (s_lret (M := M_Mm_partsOf) (pc := 31) h31 rfl) ?_
  exact ac_nil
theorem e0_Mm_value : decode prog_10_method_91_code 0 = .ok (.aload_n 0, 1) ∧ decode prog_10_method_91_code 1 = .ok (.iload_n 1, 1) ∧ decode prog_10_method_91_code 2 = .ok (.invokevirtual 368, 3) ∧ decode prog_10_method_91_code 5 = .ok (.ifCond .eq 11, 3) ∧ decode prog_10_method_91_code 8 = .ok (.aload_n 0, 1) ∧ decode prog_10_method_91_code 9 = .ok (.iload_n 1, 1) ∧ decode prog_10_method_91_code 10 = .ok (.invokevirtual 90, 3) ∧ decode prog_10_method_91_code 13 = .ok (.goto 4, 3) ∧ decode prog_10_method_91_code 16 = .ok (.lconst 0, 1) ∧ decode prog_10_method_91_code 17 = .ok (.lreturn, 1) := by decide +kernel
def T_Mm_value : TT := [(0, o_ald 0 1), (1, o_ild 1 2), (2, o_callV M_Mm_mayRegister 8 2 5), (5, o_if_eq 16 8), (8, o_ald 0 9), (9, o_ild 1 10), (10, o_callV M_Mm_valueOf 8 2 13), (13, o_goto 17), (16, o_push (.long (lI 0)) 17), (17, o_lret)]
theorem k_Mm_value : ∀ x ∈ T_Mm_value, SO M_Mm_value x.1 x.2 := by
  obtain ⟨h0, h1, h2, h5, h8, h9, h10, h13, h16, h17⟩ := e0_Mm_value
  refine ac (s_aldn (M := M_Mm_value) (pc := 0) (k := 0) h0) ?_
  refine ac (s_ildn (M := M_Mm_value) (pc := 1) (k := 1) h1) ?_
  refine ac (s_callV (M := M_Mm_value) (pc := 2) (tz_Mm rfl) h2 q_Mm_mayRegister wd2127 wd2129 wd90 rfl (T := TX8) (N := 29) rfl) ?_
  refine ac (s_if_eq (M := M_Mm_value) (pc := 5) h5 (by decide)) ?_
  refine ac (s_aldn (M := M_Mm_value) (pc := 8) (k := 0) h8) ?_
  refine ac (s_ildn (M := M_Mm_value) (pc := 9) (k := 1) h9) ?_
  refine ac (s_callV (M := M_Mm_value) (pc := 10) (tz_Mm rfl) h10 q_Mm_valueOf wd1996 wd1998 wd70 rfl (T := TX8) (N := 29) rfl) ?_
  refine ac (s_goto (M := M_Mm_value) (pc := 13) h13 (by decide)) ?_
  refine ac (s_lconst (M := M_Mm_value) (pc := 16) h16 (by decide)) ?_
  refine ac (s_lret (M := M_Mm_value) (pc := 17) h17 rfl) ?_
  exact ac_nil
theorem e0_Mm_number_I : decode prog_10_method_92_code 0 = .ok (.aload_n 0, 1) ∧ decode prog_10_method_92_code 1 = .ok (.iload_n 1, 1) ∧ decode prog_10_method_92_code 2 = .ok (.invokevirtual 368, 3) ∧ decode prog_10_method_92_code 5 = .ok (.ifCond .eq 11, 3) ∧ decode prog_10_method_92_code 8 = .ok (.aload_n 0, 1) ∧ decode prog_10_method_92_code 9 = .ok (.iload_n 1, 1) ∧ decode prog_10_method_92_code 10 = .ok (.invokevirtual 104, 3) ∧ decode prog_10_method_92_code 13 = .ok (.goto 4, 3) ∧ decode prog_10_method_92_code 16 = .ok (.lconst 0, 1) ∧ decode prog_10_method_92_code 17 = .ok (.lreturn, 1) := by decide +kernel
def T_Mm_number_I : TT := [(0, o_ald 0 1), (1, o_ild 1 2), (2, o_callV M_Mm_mayRegister 8 2 5), (5, o_if_eq 16 8), (8, o_ald 0 9), (9, o_ild 1 10), (10, o_callV M_Mm_numberOf 8 2 13), (13, o_goto 17), (16, o_push (.long (lI 0)) 17), (17, o_lret)]
theorem k_Mm_number_I : ∀ x ∈ T_Mm_number_I, SO M_Mm_number_I x.1 x.2 := by
  obtain ⟨h0, h1, h2, h5, h8, h9, h10, h13, h16, h17⟩ := e0_Mm_number_I
  refine ac (s_aldn (M := M_Mm_number_I) (pc := 0) (k := 0) h0) ?_
  refine ac (s_ildn (M := M_Mm_number_I) (pc := 1) (k := 1) h1) ?_
  refine ac (s_callV (M := M_Mm_number_I) (pc := 2) (tz_Mm rfl) h2 q_Mm_mayRegister wd2127 wd2129 wd90 rfl (T := TX8) (N := 29) rfl) ?_
  refine ac (s_if_eq (M := M_Mm_number_I) (pc := 5) h5 (by decide)) ?_
  refine ac (s_aldn (M := M_Mm_number_I) (pc := 8) (k := 0) h8) ?_
  refine ac (s_ildn (M := M_Mm_number_I) (pc := 9) (k := 1) h9) ?_
  refine ac (s_callV (M := M_Mm_number_I) (pc := 10) (tz_Mm rfl) h10 q_Mm_numberOf wd1992 wd1994 wd69 rfl (T := TX8) (N := 29) rfl) ?_
  refine ac (s_goto (M := M_Mm_number_I) (pc := 13) h13 (by decide)) ?_
  refine ac (s_lconst (M := M_Mm_number_I) (pc := 16) h16 (by decide)) ?_
  refine ac (s_lret (M := M_Mm_number_I) (pc := 17) h17 rfl) ?_
  exact ac_nil
theorem e0_Mm_isSound : decode prog_10_method_93_code 0 = .ok (.aload_n 0, 1) ∧ decode prog_10_method_93_code 1 = .ok (.iload_n 1, 1) ∧ decode prog_10_method_93_code 2 = .ok (.invokevirtual 368, 3) ∧ decode prog_10_method_93_code 5 = .ok (.ifCond .eq 15, 3) ∧ decode prog_10_method_93_code 8 = .ok (.aload_n 0, 1) ∧ decode prog_10_method_93_code 9 = .ok (.iload_n 1, 1) ∧ decode prog_10_method_93_code 10 = .ok (.invokevirtual 126, 3) ∧ decode prog_10_method_93_code 13 = .ok (.ifCond .eq 7, 3) ∧ decode prog_10_method_93_code 16 = .ok (.iconst 1, 1) ∧ decode prog_10_method_93_code 17 = .ok (.goto 4, 3) ∧ decode prog_10_method_93_code 20 = .ok (.iconst 0, 1) ∧ decode prog_10_method_93_code 21 = .ok (.ireturn, 1) := by decide +kernel
def T_Mm_isSound : TT := [(0, o_ald 0 1), (1, o_ild 1 2), (2, o_callV M_Mm_mayRegister 8 2 5), (5, o_if_eq 20 8), (8, o_ald 0 9), (9, o_ild 1 10), (10, o_callV M_Mm_soundNow 8 2 13), (13, o_if_eq 20 16), (16, o_push (.int (iI (1))) 17), (17, o_goto 21), (20, o_push (.int (iI (0))) 21), (21, o_zret)]
theorem k_Mm_isSound : ∀ x ∈ T_Mm_isSound, SO M_Mm_isSound x.1 x.2 := by
  obtain ⟨h0, h1, h2, h5, h8, h9, h10, h13, h16, h17, h20, h21⟩ := e0_Mm_isSound
  refine ac (s_aldn (M := M_Mm_isSound) (pc := 0) (k := 0) h0) ?_
  refine ac (s_ildn (M := M_Mm_isSound) (pc := 1) (k := 1) h1) ?_
  refine ac (s_callV (M := M_Mm_isSound) (pc := 2) (tz_Mm rfl) h2 q_Mm_mayRegister wd2127 wd2129 wd90 rfl (T := TX8) (N := 29) rfl) ?_
  refine ac (s_if_eq (M := M_Mm_isSound) (pc := 5) h5 (by decide)) ?_
  refine ac (s_aldn (M := M_Mm_isSound) (pc := 8) (k := 0) h8) ?_
  refine ac (s_ildn (M := M_Mm_isSound) (pc := 9) (k := 1) h9) ?_
  refine ac (s_callV (M := M_Mm_isSound) (pc := 10) (tz_Mm rfl) h10 q_Mm_soundNow wd2013 wd2015 wd72 rfl (T := TX8) (N := 29) rfl) ?_
  refine ac (s_if_eq (M := M_Mm_isSound) (pc := 13) h13 (by decide)) ?_
  refine ac (s_iconst (M := M_Mm_isSound) (pc := 16) h16 rfl) ?_
  refine ac (s_goto (M := M_Mm_isSound) (pc := 17) h17 (by decide)) ?_
  refine ac (s_iconst (M := M_Mm_isSound) (pc := 20) h20 rfl) ?_
  refine ac (s_zret (M := M_Mm_isSound) (pc := 21) h21 rfl) ?_
  exact ac_nil
theorem e0_Mm_compare : decode prog_10_method_95_code 0 = .ok (.aload_n 0, 1) ∧ decode prog_10_method_95_code 1 = .ok (.iload_n 1, 1) ∧ decode prog_10_method_95_code 2 = .ok (.iload_n 2, 1) ∧ decode prog_10_method_95_code 3 = .ok (.invokevirtual 374, 3) ∧ decode prog_10_method_95_code 6 = .ok (.ifCond .eq 12, 3) ∧ decode prog_10_method_95_code 9 = .ok (.aload_n 0, 1) ∧ decode prog_10_method_95_code 10 = .ok (.iload_n 1, 1) ∧ decode prog_10_method_95_code 11 = .ok (.iload_n 2, 1) ∧ decode prog_10_method_95_code 12 = .ok (.invokevirtual 377, 3) ∧ decode prog_10_method_95_code 15 = .ok (.goto 4, 3) ∧ decode prog_10_method_95_code 18 = .ok (.iconst 0, 1) ∧ decode prog_10_method_95_code 19 = .ok (.ireturn, 1) := by decide +kernel
def T_Mm_compare : TT := [(0, o_ald 0 1), (1, o_ild 1 2), (2, o_ild 2 3), (3, o_callV M_Mm_mayTwo 8 3 6), (6, o_if_eq 18 9), (9, o_ald 0 10), (10, o_ild 1 11), (11, o_ild 2 12), (12, o_callV M_Mm_compares 8 3 15), (15, o_goto 19), (18, o_push (.int (iI (0))) 19), (19, o_iret)]
theorem k_Mm_compare : ∀ x ∈ T_Mm_compare, SO M_Mm_compare x.1 x.2 := by
  obtain ⟨h0, h1, h2, h3, h6, h9, h10, h11, h12, h15, h18, h19⟩ := e0_Mm_compare
  refine ac (s_aldn (M := M_Mm_compare) (pc := 0) (k := 0) h0) ?_
  refine ac (s_ildn (M := M_Mm_compare) (pc := 1) (k := 1) h1) ?_
  refine ac (s_ildn (M := M_Mm_compare) (pc := 2) (k := 2) h2) ?_
  refine ac (s_callV (M := M_Mm_compare) (pc := 3) (tz_Mm rfl) h3 q_Mm_mayTwo wd2151 wd2153 wd92 rfl (T := TX8) (N := 29) rfl) ?_
  refine ac (s_if_eq (M := M_Mm_compare) (pc := 6) h6 (by decide)) ?_
  refine ac (s_aldn (M := M_Mm_compare) (pc := 9) (k := 0) h9) ?_
  refine ac (s_ildn (M := M_Mm_compare) (pc := 10) (k := 1) h10) ?_
  refine ac (s_ildn (M := M_Mm_compare) (pc := 11) (k := 2) h11) ?_
  refine ac (s_callV (M := M_Mm_compare) (pc := 12) (tz_Mm rfl) h12 q_Mm_compares wd2155 wd2157 wd93 rfl (T := TX8) (N := 29) rfl) ?_
  refine ac (s_goto (M := M_Mm_compare) (pc := 15) h15 (by decide)) ?_
  refine ac (s_iconst (M := M_Mm_compare) (pc := 18) h18 rfl) ?_
  refine ac (s_iret (M := M_Mm_compare) (pc := 19) h19 rfl) ?_
  exact ac_nil
theorem e0_Mm_mayTwo : decode prog_10_method_80_code 0 = .ok (.aload_n 0, 1) ∧ decode prog_10_method_80_code 1 = .ok (.aload_n 0, 1) ∧ decode prog_10_method_80_code 2 = .ok (.iload_n 1, 1) ∧ decode prog_10_method_80_code 3 = .ok (.invokevirtual 351, 3) ∧ decode prog_10_method_80_code 6 = .ok (.ifCond .eq 15, 3) ∧ decode prog_10_method_80_code 9 = .ok (.aload_n 0, 1) ∧ decode prog_10_method_80_code 10 = .ok (.iload_n 2, 1) ∧ decode prog_10_method_80_code 11 = .ok (.invokevirtual 351, 3) ∧ decode prog_10_method_80_code 14 = .ok (.ifCond .eq 7, 3) ∧ decode prog_10_method_80_code 17 = .ok (.iconst 0, 1) ∧ decode prog_10_method_80_code 18 = .ok (.goto 4, 3) ∧ decode prog_10_method_80_code 21 = .ok (.iconst 1, 1) := by decide +kernel
theorem e1_Mm_mayTwo : decode prog_10_method_80_code 22 = .ok (.putfield 1, 3) ∧ decode prog_10_method_80_code 25 = .ok (.aload_n 0, 1) ∧ decode prog_10_method_80_code 26 = .ok (.getfield 1, 3) ∧ decode prog_10_method_80_code 29 = .ok (.ifCond .ne 7, 3) ∧ decode prog_10_method_80_code 32 = .ok (.iconst 1, 1) ∧ decode prog_10_method_80_code 33 = .ok (.goto 4, 3) ∧ decode prog_10_method_80_code 36 = .ok (.iconst 0, 1) ∧ decode prog_10_method_80_code 37 = .ok (.ireturn, 1) := by decide +kernel
def T_Mm_mayTwo : TT := [(0, o_ald 0 1), (1, o_ald 0 2), (2, o_ild 1 3), (3, o_callV M_Mm_isRegister 8 2 6), (6, o_if_eq 21 9), (9, o_ald 0 10), (10, o_ild 2 11), (11, o_callV M_Mm_isRegister 8 2 14), (14, o_if_eq 21 17), (17, o_push (.int (iI (0))) 18), (18, o_goto 22), (21, o_push (.int (iI (1))) 22), (22, o_puti 8 0 25), (25, o_ald 0 26), (26, o_get 8 0 29), (29, o_if_ne 36 32), (32, o_push (.int (iI (1))) 33), (33, o_goto 37), (36, o_push (.int (iI (0))) 37), (37, o_zret)]
theorem k_Mm_mayTwo : ∀ x ∈ T_Mm_mayTwo, SO M_Mm_mayTwo x.1 x.2 := by
  obtain ⟨h0, h1, h2, h3, h6, h9, h10, h11, h14, h17, h18, h21⟩ := e0_Mm_mayTwo
  obtain ⟨h22, h25, h26, h29, h32, h33, h36, h37⟩ := e1_Mm_mayTwo
  refine ac (s_aldn (M := M_Mm_mayTwo) (pc := 0) (k := 0) h0) ?_
  refine ac (s_aldn (M := M_Mm_mayTwo) (pc := 1) (k := 0) h1) ?_
  refine ac (s_ildn (M := M_Mm_mayTwo) (pc := 2) (k := 1) h2) ?_
  refine ac (s_callV (M := M_Mm_mayTwo) (pc := 3) (tz_Mm rfl) h3 q_Mm_isRegister wd2107 wd2109 wd88 rfl (T := TX8) (N := 29) rfl) ?_
  refine ac (s_if_eq (M := M_Mm_mayTwo) (pc := 6) h6 (by decide)) ?_
  refine ac (s_aldn (M := M_Mm_mayTwo) (pc := 9) (k := 0) h9) ?_
  refine ac (s_ildn (M := M_Mm_mayTwo) (pc := 10) (k := 2) h10) ?_
  refine ac (s_callV (M := M_Mm_mayTwo) (pc := 11) (tz_Mm rfl) h11 q_Mm_isRegister wd2107 wd2109 wd88 rfl (T := TX8) (N := 29) rfl) ?_
  refine ac (s_if_eq (M := M_Mm_mayTwo) (pc := 14) h14 (by decide)) ?_
  refine ac (s_iconst (M := M_Mm_mayTwo) (pc := 17) h17 rfl) ?_
  refine ac (s_goto (M := M_Mm_mayTwo) (pc := 18) h18 (by decide)) ?_
  refine ac (s_iconst (M := M_Mm_mayTwo) (pc := 21) h21 rfl) ?_
  refine ac (s_puti (M := M_Mm_mayTwo) (pc := 22) (T := TX8) (N := 29) (ty0 := tyX8) h22 ⟨rfl, in_X8, by decide, wd1689, tyX8_ok, nmX8, (Or.inl rfl)⟩ rfl) ?_
  refine ac (s_aldn (M := M_Mm_mayTwo) (pc := 25) (k := 0) h25) ?_
  refine ac (s_get (M := M_Mm_mayTwo) (pc := 26) (T := TX8) (N := 29) h26 rfl in_X8 (by decide) wd1689) ?_
  refine ac (s_if_ne (M := M_Mm_mayTwo) (pc := 29) h29 (by decide)) ?_
  refine ac (s_iconst (M := M_Mm_mayTwo) (pc := 32) h32 rfl) ?_
  refine ac (s_goto (M := M_Mm_mayTwo) (pc := 33) h33 (by decide)) ?_
  refine ac (s_iconst (M := M_Mm_mayTwo) (pc := 36) h36 rfl) ?_
  refine ac (s_zret (M := M_Mm_mayTwo) (pc := 37) h37 rfl) ?_
  exact ac_nil
theorem e0_Mm_compares : decode prog_10_method_94_code 0 = .ok (.aload_n 0, 1) ∧ decode prog_10_method_94_code 1 = .ok (.iload_n 1, 1) ∧ decode prog_10_method_94_code 2 = .ok (.invokevirtual 104, 3) ∧ decode prog_10_method_94_code 5 = .ok (.lstore_n 3, 1) ∧ decode prog_10_method_94_code 6 = .ok (.aload_n 0, 1) ∧ decode prog_10_method_94_code 7 = .ok (.iload_n 2, 1) ∧ decode prog_10_method_94_code 8 = .ok (.invokevirtual 104, 3) ∧ decode prog_10_method_94_code 11 = .ok (.lstore 5, 2) ∧ decode prog_10_method_94_code 13 = .ok (.lload_n 3, 1) ∧ decode prog_10_method_94_code 14 = .ok (.lload 5, 2) ∧ decode prog_10_method_94_code 16 = .ok (.lcmp, 1) ∧ decode prog_10_method_94_code 17 = .ok (.ifCond .ge 7, 3) := by decide +kernel
theorem e1_Mm_compares : decode prog_10_method_94_code 20 = .ok (.iconst (-1), 1) ∧ decode prog_10_method_94_code 21 = .ok (.goto 15, 3) ∧ decode prog_10_method_94_code 24 = .ok (.lload_n 3, 1) ∧ decode prog_10_method_94_code 25 = .ok (.lload 5, 2) ∧ decode prog_10_method_94_code 27 = .ok (.lcmp, 1) ∧ decode prog_10_method_94_code 28 = .ok (.ifCond .le 7, 3) ∧ decode prog_10_method_94_code 31 = .ok (.iconst 1, 1) ∧ decode prog_10_method_94_code 32 = .ok (.goto 4, 3) ∧ decode prog_10_method_94_code 35 = .ok (.iconst 0, 1) ∧ decode prog_10_method_94_code 36 = .ok (.ireturn, 1) := by decide +kernel
def T_Mm_compares : TT := [(0, o_ald 0 1), (1, o_ild 1 2), (2, o_callV M_Mm_numberOf 8 2 5), (5, o_lst 3 6), (6, o_ald 0 7), (7, o_ild 2 8), (8, o_callV M_Mm_numberOf 8 2 11), (11, o_lst 5 13), (13, o_lld 3 14), (14, o_lld 5 16), (16, o_lc_ge 24 20), (20, o_push (.int (iI (-1))) 21), (21, o_goto 36), (24, o_lld 3 25), (25, o_lld 5 27), (27, o_lc_le 35 31), (31, o_push (.int (iI (1))) 32), (32, o_goto 36), (35, o_push (.int (iI (0))) 36), (36, o_iret)]
theorem k_Mm_compares : ∀ x ∈ T_Mm_compares, SO M_Mm_compares x.1 x.2 := by
  obtain ⟨h0, h1, h2, h5, h6, h7, h8, h11, h13, h14, h16, h17⟩ := e0_Mm_compares
  obtain ⟨h20, h21, h24, h25, h27, h28, h31, h32, h35, h36⟩ := e1_Mm_compares
  refine ac (s_aldn (M := M_Mm_compares) (pc := 0) (k := 0) h0) ?_
  refine ac (s_ildn (M := M_Mm_compares) (pc := 1) (k := 1) h1) ?_
  refine ac (s_callV (M := M_Mm_compares) (pc := 2) (tz_Mm rfl) h2 q_Mm_numberOf wd1992 wd1994 wd69 rfl (T := TX8) (N := 29) rfl) ?_
  refine ac (s_lstn (M := M_Mm_compares) (pc := 5) (k := 3) h5 (by decide)) ?_
  refine ac (s_aldn (M := M_Mm_compares) (pc := 6) (k := 0) h6) ?_
  refine ac (s_ildn (M := M_Mm_compares) (pc := 7) (k := 2) h7) ?_
  refine ac (s_callV (M := M_Mm_compares) (pc := 8) (tz_Mm rfl) h8 q_Mm_numberOf wd1992 wd1994 wd69 rfl (T := TX8) (N := 29) rfl) ?_
  refine ac (s_lst (M := M_Mm_compares) (pc := 11) h11 (by decide)) ?_
  refine ac (s_lldn (M := M_Mm_compares) (pc := 13) (k := 3) h13) ?_
  refine ac (s_lld (M := M_Mm_compares) (pc := 14) h14) ?_
  refine ac (s_lc_ge (M := M_Mm_compares) (pc := 16) h16 h17 (by decide)) ?_
  refine ac (s_iconst (M := M_Mm_compares) (pc := 20) h20 rfl) ?_
  refine ac (s_goto (M := M_Mm_compares) (pc := 21) h21 (by decide)) ?_
  refine ac (s_lldn (M := M_Mm_compares) (pc := 24) (k := 3) h24) ?_
  refine ac (s_lld (M := M_Mm_compares) (pc := 25) h25) ?_
  refine ac (s_lc_le (M := M_Mm_compares) (pc := 27) h27 h28 (by decide)) ?_
  refine ac (s_iconst (M := M_Mm_compares) (pc := 31) h31 rfl) ?_
  refine ac (s_goto (M := M_Mm_compares) (pc := 32) h32 (by decide)) ?_
  refine ac (s_iconst (M := M_Mm_compares) (pc := 35) h35 rfl) ?_
  refine ac (s_iret (M := M_Mm_compares) (pc := 36) h36 rfl) ?_
  exact ac_nil
theorem e0_Mm_extend : decode prog_10_method_96_code 0 = .ok (.aload_n 0, 1) ∧ decode prog_10_method_96_code 1 = .ok (.aload_n 0, 1) ∧ decode prog_10_method_96_code 2 = .ok (.iload_n 1, 1) ∧ decode prog_10_method_96_code 3 = .ok (.invokevirtual 351, 3) ∧ decode prog_10_method_96_code 6 = .ok (.ifCond .ne 7, 3) ∧ decode prog_10_method_96_code 9 = .ok (.iconst 1, 1) ∧ decode prog_10_method_96_code 10 = .ok (.goto 22, 3) ∧ decode prog_10_method_96_code 13 = .ok (.iload_n 2, 1) ∧ decode prog_10_method_96_code 14 = .ok (.i2l, 1) ∧ decode prog_10_method_96_code 15 = .ok (.ldc2_w 76, 3) ∧ decode prog_10_method_96_code 18 = .ok (.ldc2_w 380, 3) ∧ decode prog_10_method_96_code 21 = .ok (.invokestatic 57, 3) := by decide +kernel
theorem e1_Mm_extend : decode prog_10_method_96_code 24 = .ok (.ifCond .eq 7, 3) ∧ decode prog_10_method_96_code 27 = .ok (.iconst 0, 1) ∧ decode prog_10_method_96_code 28 = .ok (.goto 4, 3) ∧ decode prog_10_method_96_code 31 = .ok (.iconst 2, 1) ∧ decode prog_10_method_96_code 32 = .ok (.putfield 1, 3) ∧ decode prog_10_method_96_code 35 = .ok (.aload_n 0, 1) ∧ decode prog_10_method_96_code 36 = .ok (.getfield 1, 3) ∧ decode prog_10_method_96_code 39 = .ok (.ifCond .eq 5, 3) ∧ decode prog_10_method_96_code 42 = .ok (.iconst 0, 1) ∧ decode prog_10_method_96_code 43 = .ok (.ireturn, 1) ∧ decode prog_10_method_96_code 44 = .ok (.iload_n 3, 1) ∧ decode prog_10_method_96_code 45 = .ok (.ifCond .eq 11, 3) := by decide +kernel
theorem e2_Mm_extend : decode prog_10_method_96_code 48 = .ok (.aload_n 0, 1) ∧ decode prog_10_method_96_code 49 = .ok (.iload_n 1, 1) ∧ decode prog_10_method_96_code 50 = .ok (.invokevirtual 104, 3) ∧ decode prog_10_method_96_code 53 = .ok (.goto 8, 3) ∧ decode prog_10_method_96_code 56 = .ok (.aload_n 0, 1) ∧ decode prog_10_method_96_code 57 = .ok (.iload_n 1, 1) ∧ decode prog_10_method_96_code 58 = .ok (.invokevirtual 90, 3) ∧ decode prog_10_method_96_code 61 = .ok (.iload_n 2, 1) ∧ decode prog_10_method_96_code 62 = .ok (.invokestatic 78, 3) ∧ decode prog_10_method_96_code 65 = .ok (.ireturn, 1) := by decide +kernel
def T_Mm_extend : TT := [(0, o_ald 0 1), (1, o_ald 0 2), (2, o_ild 1 3), (3, o_callV M_Mm_isRegister 8 2 6), (6, o_if_ne 13 9), (9, o_push (.int (iI (1))) 10), (10, o_goto 32), (13, o_ild 2 14), (14, o_i2l 15), (15, o_push (.long (lI (2))) 18), (18, o_push (.long (lI (9999))) 21), (21, o_call M_Mm_isIn 3 24), (24, o_if_eq 31 27), (27, o_push (.int (iI (0))) 28), (28, o_goto 32), (31, o_push (.int (iI (2))) 32), (32, o_puti 8 0 35), (35, o_ald 0 36), (36, o_get 8 0 39), (39, o_if_eq 44 42), (42, o_push (.int (iI (0))) 43), (43, o_iret), (44, o_ild 3 45), (45, o_if_eq 56 48), (48, o_ald 0 49), (49, o_ild 1 50), (50, o_callV M_Mm_numberOf 8 2 53), (53, o_goto 61), (56, o_ald 0 57), (57, o_ild 1 58), (58, o_callV M_Mm_valueOf 8 2 61), (61, o_ild 2 62), (62, o_call M_Mm_rest_JI 2 65), (65, o_iret)]
theorem k_Mm_extend : ∀ x ∈ T_Mm_extend, SO M_Mm_extend x.1 x.2 := by
  obtain ⟨h0, h1, h2, h3, h6, h9, h10, h13, h14, h15, h18, h21⟩ := e0_Mm_extend
  obtain ⟨h24, h27, h28, h31, h32, h35, h36, h39, h42, h43, h44, h45⟩ := e1_Mm_extend
  obtain ⟨h48, h49, h50, h53, h56, h57, h58, h61, h62, h65⟩ := e2_Mm_extend
  refine ac (s_aldn (M := M_Mm_extend) (pc := 0) (k := 0) h0) ?_
  refine ac (s_aldn (M := M_Mm_extend) (pc := 1) (k := 0) h1) ?_
  refine ac (s_ildn (M := M_Mm_extend) (pc := 2) (k := 1) h2) ?_
  refine ac (s_callV (M := M_Mm_extend) (pc := 3) (tz_Mm rfl) h3 q_Mm_isRegister wd2107 wd2109 wd88 rfl (T := TX8) (N := 29) rfl) ?_
  refine ac (s_if_ne (M := M_Mm_extend) (pc := 6) h6 (by decide)) ?_
  refine ac (s_iconst (M := M_Mm_extend) (pc := 9) h9 rfl) ?_
  refine ac (s_goto (M := M_Mm_extend) (pc := 10) h10 (by decide)) ?_
  refine ac (s_ildn (M := M_Mm_extend) (pc := 13) (k := 2) h13) ?_
  refine ac (s_i2l (M := M_Mm_extend) (pc := 14) h14) ?_
  refine ac (s_ldc2 (M := M_Mm_extend) (pc := 15) h15 wd1857) ?_
  refine ac (s_ldc2 (M := M_Mm_extend) (pc := 18) h18 wd2163) ?_
  refine ac (s_callS (M := M_Mm_extend) (pc := 21) (tz_Mm rfl) h21 q_Mm_isIn wd1789 wd1790) ?_
  refine ac (s_if_eq (M := M_Mm_extend) (pc := 24) h24 (by decide)) ?_
  refine ac (s_iconst (M := M_Mm_extend) (pc := 27) h27 rfl) ?_
  refine ac (s_goto (M := M_Mm_extend) (pc := 28) h28 (by decide)) ?_
  refine ac (s_iconst (M := M_Mm_extend) (pc := 31) h31 rfl) ?_
  refine ac (s_puti (M := M_Mm_extend) (pc := 32) (T := TX8) (N := 29) (ty0 := tyX8) h32 ⟨rfl, in_X8, by decide, wd1689, tyX8_ok, nmX8, (Or.inl rfl)⟩ rfl) ?_
  refine ac (s_aldn (M := M_Mm_extend) (pc := 35) (k := 0) h35) ?_
  refine ac (s_get (M := M_Mm_extend) (pc := 36) (T := TX8) (N := 29) h36 rfl in_X8 (by decide) wd1689) ?_
  refine ac (s_if_eq (M := M_Mm_extend) (pc := 39) h39 (by decide)) ?_
  refine ac (s_iconst (M := M_Mm_extend) (pc := 42) h42 rfl) ?_
  refine ac (s_iret (M := M_Mm_extend) (pc := 43) h43 rfl) ?_
  refine ac (s_ildn (M := M_Mm_extend) (pc := 44) (k := 3) h44) ?_
  refine ac (s_if_eq (M := M_Mm_extend) (pc := 45) h45 (by decide)) ?_
  refine ac (s_aldn (M := M_Mm_extend) (pc := 48) (k := 0) h48) ?_
  refine ac (s_ildn (M := M_Mm_extend) (pc := 49) (k := 1) h49) ?_
  refine ac (s_callV (M := M_Mm_extend) (pc := 50) (tz_Mm rfl) h50 q_Mm_numberOf wd1992 wd1994 wd69 rfl (T := TX8) (N := 29) rfl) ?_
  refine ac (s_goto (M := M_Mm_extend) (pc := 53) h53 (by decide)) ?_
  refine ac (s_aldn (M := M_Mm_extend) (pc := 56) (k := 0) h56) ?_
  refine ac (s_ildn (M := M_Mm_extend) (pc := 57) (k := 1) h57) ?_
  refine ac (s_callV (M := M_Mm_extend) (pc := 58) (tz_Mm rfl) h58 q_Mm_valueOf wd1996 wd1998 wd70 rfl (T := TX8) (N := 29) rfl) ?_
  refine ac (s_ildn (M := M_Mm_extend) (pc := 61) (k := 2) h61) ?_
  refine ac (s_callS (M := M_Mm_extend) (pc := 62) (tz_Mm rfl) h62 q_Mm_rest_JI wd1918 wd1919) ?_
  refine ac (s_iret (M := M_Mm_extend) (pc := 65) h65 rfl) ?_
  exact ac_nil
theorem e0_Mm_gap : decode prog_10_method_97_code 0 = .ok (.aload_n 0, 1) ∧ decode prog_10_method_97_code 1 = .ok (.iconst 0, 1) ∧ decode prog_10_method_97_code 2 = .ok (.putfield 1, 3) ∧ decode prog_10_method_97_code 5 = .ok (.lconst 0, 1) ∧ decode prog_10_method_97_code 6 = .ok (.lstore_n 1, 1) ∧ decode prog_10_method_97_code 7 = .ok (.iconst 0, 1) ∧ decode prog_10_method_97_code 8 = .ok (.istore_n 3, 1) ∧ decode prog_10_method_97_code 9 = .ok (.iload_n 3, 1) ∧ decode prog_10_method_97_code 10 = .ok (.bipush 8, 2) ∧ decode prog_10_method_97_code 12 = .ok (.if_icmp .ge 45, 3) ∧ decode prog_10_method_97_code 15 = .ok (.aload_n 0, 1) ∧ decode prog_10_method_97_code 16 = .ok (.iload_n 3, 1) := by decide +kernel
theorem e1_Mm_gap : decode prog_10_method_97_code 17 = .ok (.invokevirtual 90, 3) ∧ decode prog_10_method_97_code 20 = .ok (.aload_n 0, 1) ∧ decode prog_10_method_97_code 21 = .ok (.iload_n 3, 1) ∧ decode prog_10_method_97_code 22 = .ok (.invokevirtual 371, 3) ∧ decode prog_10_method_97_code 25 = .ok (.aload_n 0, 1) ∧ decode prog_10_method_97_code 26 = .ok (.invokevirtual 93, 3) ∧ decode prog_10_method_97_code 29 = .ok (.lrem, 1) ∧ decode prog_10_method_97_code 30 = .ok (.lsub, 1) ∧ decode prog_10_method_97_code 31 = .ok (.lstore 4, 2) ∧ decode prog_10_method_97_code 33 = .ok (.lload_n 1, 1) ∧ decode prog_10_method_97_code 34 = .ok (.lload 4, 2) ∧ decode prog_10_method_97_code 36 = .ok (.lconst 0, 1) := by decide +kernel
theorem e2_Mm_gap : decode prog_10_method_97_code 37 = .ok (.lcmp, 1) ∧ decode prog_10_method_97_code 38 = .ok (.ifCond .ge 9, 3) ∧ decode prog_10_method_97_code 41 = .ok (.lload 4, 2) ∧ decode prog_10_method_97_code 43 = .ok (.lneg, 1) ∧ decode prog_10_method_97_code 44 = .ok (.goto 5, 3) ∧ decode prog_10_method_97_code 47 = .ok (.lload 4, 2) ∧ decode prog_10_method_97_code 49 = .ok (.ladd, 1) ∧ decode prog_10_method_97_code 50 = .ok (.lstore_n 1, 1) ∧ decode prog_10_method_97_code 51 = .ok (.iinc 3 1, 3) ∧ decode prog_10_method_97_code 54 = .ok (.goto (-45), 3) ∧ decode prog_10_method_97_code 57 = .ok (.lload_n 1, 1) ∧ decode prog_10_method_97_code 58 = .ok (.lreturn, 1) := by decide +kernel
def T_Mm_gap : TT := [(0, o_ald 0 1), (1, o_push (.int (iI (0))) 2), (2, o_puti 8 0 5), (5, o_push (.long (lI 0)) 6), (6, o_lst 1 7), (7, o_push (.int (iI (0))) 8), (8, o_ist 3 9), (9, o_ild 3 10), (10, o_push (.int (iI (8))) 12), (12, o_icmp_ge 57 15), (15, o_ald 0 16), (16, o_ild 3 17), (17, o_callV M_Mm_valueOf 8 2 20), (20, o_ald 0 21), (21, o_ild 3 22), (22, o_callV M_Mm_partsOf 8 2 25), (25, o_ald 0 26), (26, o_callV M_Mm_whole 8 1 29), (29, o_lrem 30), (30, o_lsub 31), (31, o_lst 4 33), (33, o_lld 1 34), (34, o_lld 4 36), (36, o_push (.long (lI 0)) 37), (37, o_lc_ge 47 41), (41, o_lld 4 43), (43, o_lneg 44), (44, o_goto 49), (47, o_lld 4 49), (49, o_ladd 50), (50, o_lst 1 51), (51, o_iinc 3 (iI (1)) 54), (54, o_goto 9), (57, o_lld 1 58), (58, o_lret)]
theorem k_Mm_gap : ∀ x ∈ T_Mm_gap, SO M_Mm_gap x.1 x.2 := by
  obtain ⟨h0, h1, h2, h5, h6, h7, h8, h9, h10, h12, h15, h16⟩ := e0_Mm_gap
  obtain ⟨h17, h20, h21, h22, h25, h26, h29, h30, h31, h33, h34, h36⟩ := e1_Mm_gap
  obtain ⟨h37, h38, h41, h43, h44, h47, h49, h50, h51, h54, h57, h58⟩ := e2_Mm_gap
  refine ac (s_aldn (M := M_Mm_gap) (pc := 0) (k := 0) h0) ?_
  refine ac (s_iconst (M := M_Mm_gap) (pc := 1) h1 rfl) ?_
  refine ac (s_puti (M := M_Mm_gap) (pc := 2) (T := TX8) (N := 29) (ty0 := tyX8) h2 ⟨rfl, in_X8, by decide, wd1689, tyX8_ok, nmX8, (Or.inl rfl)⟩ rfl) ?_
  refine ac (s_lconst (M := M_Mm_gap) (pc := 5) h5 (by decide)) ?_
  refine ac (s_lstn (M := M_Mm_gap) (pc := 6) (k := 1) h6 (by decide)) ?_
  refine ac (s_iconst (M := M_Mm_gap) (pc := 7) h7 rfl) ?_
  refine ac (s_istn (M := M_Mm_gap) (pc := 8) (k := 3) h8 (by decide)) ?_
  refine ac (s_ildn (M := M_Mm_gap) (pc := 9) (k := 3) h9) ?_
  refine ac (s_bipush (M := M_Mm_gap) (pc := 10) h10 (by decide)) ?_
  refine ac (s_icmp_ge (M := M_Mm_gap) (pc := 12) h12 (by decide)) ?_
  refine ac (s_aldn (M := M_Mm_gap) (pc := 15) (k := 0) h15) ?_
  refine ac (s_ildn (M := M_Mm_gap) (pc := 16) (k := 3) h16) ?_
  refine ac (s_callV (M := M_Mm_gap) (pc := 17) (tz_Mm rfl) h17 q_Mm_valueOf wd1996 wd1998 wd70 rfl (T := TX8) (N := 29) rfl) ?_
  refine ac (s_aldn (M := M_Mm_gap) (pc := 20) (k := 0) h20) ?_
  refine ac (s_ildn (M := M_Mm_gap) (pc := 21) (k := 3) h21) ?_
  refine ac (s_callV (M := M_Mm_gap) (pc := 22) (tz_Mm rfl) h22 q_Mm_partsOf wd2131 wd2133 wd91 rfl (T := TX8) (N := 29) rfl) ?_
  refine ac (s_aldn (M := M_Mm_gap) (pc := 25) (k := 0) h25) ?_
  refine ac (s_callV (M := M_Mm_gap) (pc := 26) (tz_Mm rfl) h26 q_Mm_whole wd1858 wd1860 wd40 rfl (T := TX8) (N := 29) rfl) ?_
  refine ac (s_lrem (M := M_Mm_gap) (pc := 29) h29) ?_
  refine ac (s_lsub (M := M_Mm_gap) (pc := 30) h30) ?_
  refine ac (s_lst (M := M_Mm_gap) (pc := 31) h31 (by decide)) ?_
  refine ac (s_lldn (M := M_Mm_gap) (pc := 33) (k := 1) h33) ?_
  refine ac (s_lld (M := M_Mm_gap) (pc := 34) h34) ?_
  refine ac (s_lconst (M := M_Mm_gap) (pc := 36) h36 (by decide)) ?_
  refine ac (s_lc_ge (M := M_Mm_gap) (pc := 37) h37 h38 (by decide)) ?_
  refine ac (s_lld (M := M_Mm_gap) (pc := 41) h41) ?_
  refine ac (s_lneg (M := M_Mm_gap) (pc := 43) h43) ?_
  refine ac (s_goto (M := M_Mm_gap) (pc := 44) h44 (by decide)) ?_
  refine ac (s_lld (M := M_Mm_gap) (pc := 47) h47) ?_
  refine ac (s_ladd (M := M_Mm_gap) (pc := 49) h49) ?_
  refine ac (s_lstn (M := M_Mm_gap) (pc := 50) (k := 1) h50 (by decide)) ?_
  refine ac (s_iinc (M := M_Mm_gap) (pc := 51) h51 rfl (by decide)) ?_
  refine ac (s_goto (M := M_Mm_gap) (pc := 54) h54 (by decide)) ?_
  refine ac (s_lldn (M := M_Mm_gap) (pc := 57) (k := 1) h57) ?_
  refine ac (s_lret (M := M_Mm_gap) (pc := 58) h58 rfl) ?_
  exact ac_nil
theorem e0_Mm_distance : decode prog_10_method_98_code 0 = .ok (.aload_n 0, 1) ∧ decode prog_10_method_98_code 1 = .ok (.iload_n 1, 1) ∧ decode prog_10_method_98_code 2 = .ok (.iload_n 2, 1) ∧ decode prog_10_method_98_code 3 = .ok (.invokevirtual 374, 3) ∧ decode prog_10_method_98_code 6 = .ok (.ifCond .ne 5, 3) ∧ decode prog_10_method_98_code 9 = .ok (.iconst 0, 1) ∧ decode prog_10_method_98_code 10 = .ok (.ireturn, 1) ∧ decode prog_10_method_98_code 11 = .ok (.iconst 0, 1) ∧ decode prog_10_method_98_code 12 = .ok (.istore_n 3, 1) ∧ decode prog_10_method_98_code 13 = .ok (.iconst 0, 1) ∧ decode prog_10_method_98_code 14 = .ok (.istore 4, 2) ∧ decode prog_10_method_98_code 16 = .ok (.iload 4, 2) := by decide +kernel
theorem e1_Mm_distance : decode prog_10_method_98_code 18 = .ok (.aload_n 0, 1) ∧ decode prog_10_method_98_code 19 = .ok (.invokevirtual 61, 3) ∧ decode prog_10_method_98_code 22 = .ok (.if_icmp .ge 30, 3) ∧ decode prog_10_method_98_code 25 = .ok (.aload_n 0, 1) ∧ decode prog_10_method_98_code 26 = .ok (.iload_n 1, 1) ∧ decode prog_10_method_98_code 27 = .ok (.iload 4, 2) ∧ decode prog_10_method_98_code 29 = .ok (.invokevirtual 86, 3) ∧ decode prog_10_method_98_code 32 = .ok (.aload_n 0, 1) ∧ decode prog_10_method_98_code 33 = .ok (.iload_n 2, 1) ∧ decode prog_10_method_98_code 34 = .ok (.iload 4, 2) ∧ decode prog_10_method_98_code 36 = .ok (.invokevirtual 86, 3) ∧ decode prog_10_method_98_code 39 = .ok (.if_icmp .eq 7, 3) := by decide +kernel
theorem e2_Mm_distance : decode prog_10_method_98_code 42 = .ok (.iload_n 3, 1) ∧ decode prog_10_method_98_code 43 = .ok (.iconst 1, 1) ∧ decode prog_10_method_98_code 44 = .ok (.iadd, 1) ∧ decode prog_10_method_98_code 45 = .ok (.istore_n 3, 1) ∧ decode prog_10_method_98_code 46 = .ok (.iinc 4 1, 3) ∧ decode prog_10_method_98_code 49 = .ok (.goto (-33), 3) ∧ decode prog_10_method_98_code 52 = .ok (.iload_n 3, 1) ∧ decode prog_10_method_98_code 53 = .ok (.ireturn, 1) := by decide +kernel
def T_Mm_distance : TT := [(0, o_ald 0 1), (1, o_ild 1 2), (2, o_ild 2 3), (3, o_callV M_Mm_mayTwo 8 3 6), (6, o_if_ne 11 9), (9, o_push (.int (iI (0))) 10), (10, o_iret), (11, o_push (.int (iI (0))) 12), (12, o_ist 3 13), (13, o_push (.int (iI (0))) 14), (14, o_ist 4 16), (16, o_ild 4 18), (18, o_ald 0 19), (19, o_callV M_Mm_many 8 1 22), (22, o_icmp_ge 52 25), (25, o_ald 0 26), (26, o_ild 1 27), (27, o_ild 4 29), (29, o_callV M_Mm_restOf 8 3 32), (32, o_ald 0 33), (33, o_ild 2 34), (34, o_ild 4 36), (36, o_callV M_Mm_restOf 8 3 39), (39, o_icmp_eq 46 42), (42, o_ild 3 43), (43, o_push (.int (iI (1))) 44), (44, o_iadd 45), (45, o_ist 3 46), (46, o_iinc 4 (iI (1)) 49), (49, o_goto 16), (52, o_ild 3 53), (53, o_iret)]
theorem k_Mm_distance : ∀ x ∈ T_Mm_distance, SO M_Mm_distance x.1 x.2 := by
  obtain ⟨h0, h1, h2, h3, h6, h9, h10, h11, h12, h13, h14, h16⟩ := e0_Mm_distance
  obtain ⟨h18, h19, h22, h25, h26, h27, h29, h32, h33, h34, h36, h39⟩ := e1_Mm_distance
  obtain ⟨h42, h43, h44, h45, h46, h49, h52, h53⟩ := e2_Mm_distance
  refine ac (s_aldn (M := M_Mm_distance) (pc := 0) (k := 0) h0) ?_
  refine ac (s_ildn (M := M_Mm_distance) (pc := 1) (k := 1) h1) ?_
  refine ac (s_ildn (M := M_Mm_distance) (pc := 2) (k := 2) h2) ?_
  refine ac (s_callV (M := M_Mm_distance) (pc := 3) (tz_Mm rfl) h3 q_Mm_mayTwo wd2151 wd2153 wd92 rfl (T := TX8) (N := 29) rfl) ?_
  refine ac (s_if_ne (M := M_Mm_distance) (pc := 6) h6 (by decide)) ?_
  refine ac (s_iconst (M := M_Mm_distance) (pc := 9) h9 rfl) ?_
  refine ac (s_iret (M := M_Mm_distance) (pc := 10) h10 rfl) ?_
  refine ac (s_iconst (M := M_Mm_distance) (pc := 11) h11 rfl) ?_
  refine ac (s_istn (M := M_Mm_distance) (pc := 12) (k := 3) h12 (by decide)) ?_
  refine ac (s_iconst (M := M_Mm_distance) (pc := 13) h13 rfl) ?_
  refine ac (s_ist (M := M_Mm_distance) (pc := 14) h14 (by decide)) ?_
  refine ac (s_ild (M := M_Mm_distance) (pc := 16) h16) ?_
  refine ac (s_aldn (M := M_Mm_distance) (pc := 18) (k := 0) h18) ?_
  refine ac (s_callV (M := M_Mm_distance) (pc := 19) (tz_Mm rfl) h19 q_Mm_many wd1849 wd1851 wd38 rfl (T := TX8) (N := 29) rfl) ?_
  refine ac (s_icmp_ge (M := M_Mm_distance) (pc := 22) h22 (by decide)) ?_
  refine ac (s_aldn (M := M_Mm_distance) (pc := 25) (k := 0) h25) ?_
  refine ac (s_ildn (M := M_Mm_distance) (pc := 26) (k := 1) h26) ?_
  refine ac (s_ild (M := M_Mm_distance) (pc := 27) h27) ?_
  refine ac (s_callV (M := M_Mm_distance) (pc := 29) (tz_Mm rfl) h29 q_Mm_restOf wd1984 wd1986 wd67 rfl (T := TX8) (N := 29) rfl) ?_
  refine ac (s_aldn (M := M_Mm_distance) (pc := 32) (k := 0) h32) ?_
  refine ac (s_ildn (M := M_Mm_distance) (pc := 33) (k := 2) h33) ?_
  refine ac (s_ild (M := M_Mm_distance) (pc := 34) h34) ?_
  refine ac (s_callV (M := M_Mm_distance) (pc := 36) (tz_Mm rfl) h36 q_Mm_restOf wd1984 wd1986 wd67 rfl (T := TX8) (N := 29) rfl) ?_
  refine ac (s_icmp_eq (M := M_Mm_distance) (pc := 39) h39 (by decide)) ?_
  refine ac (s_ildn (M := M_Mm_distance) (pc := 42) (k := 3) h42) ?_
  refine ac (s_iconst (M := M_Mm_distance) (pc := 43) h43 rfl) ?_
  refine ac (s_iadd (M := M_Mm_distance) (pc := 44) h44) ?_
  refine ac (s_istn (M := M_Mm_distance) (pc := 45) (k := 3) h45 (by decide)) ?_
  refine ac (s_iinc (M := M_Mm_distance) (pc := 46) h46 rfl (by decide)) ?_
  refine ac (s_goto (M := M_Mm_distance) (pc := 49) h49 (by decide)) ?_
  refine ac (s_ildn (M := M_Mm_distance) (pc := 52) (k := 3) h52) ?_
  refine ac (s_iret (M := M_Mm_distance) (pc := 53) h53 rfl) ?_
  exact ac_nil
theorem e0_Mm_exact : decode prog_10_method_101_code 0 = .ok (.aload_n 0, 1) ∧ decode prog_10_method_101_code 1 = .ok (.iload_n 1, 1) ∧ decode prog_10_method_101_code 2 = .ok (.iload_n 2, 1) ∧ decode prog_10_method_101_code 3 = .ok (.iload_n 3, 1) ∧ decode prog_10_method_101_code 4 = .ok (.invokevirtual 387, 3) ∧ decode prog_10_method_101_code 7 = .ok (.ifCond .ne 5, 3) ∧ decode prog_10_method_101_code 10 = .ok (.lconst 0, 1) ∧ decode prog_10_method_101_code 11 = .ok (.lreturn, 1) ∧ decode prog_10_method_101_code 12 = .ok (.aload_n 0, 1) ∧ decode prog_10_method_101_code 13 = .ok (.iload_n 3, 1) ∧ decode prog_10_method_101_code 14 = .ok (.invokevirtual 104, 3) ∧ decode prog_10_method_101_code 17 = .ok (.lstore 4, 2) := by decide +kernel
theorem e1_Mm_exact : decode prog_10_method_101_code 19 = .ok (.aload_n 0, 1) ∧ decode prog_10_method_101_code 20 = .ok (.aload_n 0, 1) ∧ decode prog_10_method_101_code 21 = .ok (.iload_n 1, 1) ∧ decode prog_10_method_101_code 22 = .ok (.invokevirtual 114, 3) ∧ decode prog_10_method_101_code 25 = .ok (.ifCond .eq 14, 3) ∧ decode prog_10_method_101_code 28 = .ok (.lload 4, 2) ∧ decode prog_10_method_101_code 30 = .ok (.lconst 0, 1) ∧ decode prog_10_method_101_code 31 = .ok (.lcmp, 1) ∧ decode prog_10_method_101_code 32 = .ok (.ifCond .ne 7, 3) ∧ decode prog_10_method_101_code 35 = .ok (.iconst 3, 1) ∧ decode prog_10_method_101_code 36 = .ok (.goto 4, 3) ∧ decode prog_10_method_101_code 39 = .ok (.iconst 0, 1) := by decide +kernel
theorem e2_Mm_exact : decode prog_10_method_101_code 40 = .ok (.putfield 1, 3) ∧ decode prog_10_method_101_code 43 = .ok (.aload_n 0, 1) ∧ decode prog_10_method_101_code 44 = .ok (.getfield 1, 3) ∧ decode prog_10_method_101_code 47 = .ok (.ifCond .ne 17, 3) ∧ decode prog_10_method_101_code 50 = .ok (.iload_n 1, 1) ∧ decode prog_10_method_101_code 51 = .ok (.aload_n 0, 1) ∧ decode prog_10_method_101_code 52 = .ok (.iload_n 2, 1) ∧ decode prog_10_method_101_code 53 = .ok (.invokevirtual 104, 3) ∧ decode prog_10_method_101_code 56 = .ok (.lload 4, 2) ∧ decode prog_10_method_101_code 58 = .ok (.invokestatic 118, 3) ∧ decode prog_10_method_101_code 61 = .ok (.goto 4, 3) ∧ decode prog_10_method_101_code 64 = .ok (.lconst 0, 1) := by decide +kernel
theorem e3_Mm_exact : decode prog_10_method_101_code 65 = .ok (.lreturn, 1) := by decide +kernel
def T_Mm_exact : TT := [(0, o_ald 0 1), (1, o_ild 1 2), (2, o_ild 2 3), (3, o_ild 3 4), (4, o_callV M_Mm_mayOperate 8 4 7), (7, o_if_ne 12 10), (10, o_push (.long (lI 0)) 11), (11, o_lret), (12, o_ald 0 13), (13, o_ild 3 14), (14, o_callV M_Mm_numberOf 8 2 17), (17, o_lst 4 19), (19, o_ald 0 20), (20, o_ald 0 21), (21, o_ild 1 22), (22, o_callV M_Mm_divides 8 2 25), (25, o_if_eq 39 28), (28, o_lld 4 30), (30, o_push (.long (lI 0)) 31), (31, o_lc_ne 39 35), (35, o_push (.int (iI (3))) 36), (36, o_goto 40), (39, o_push (.int (iI (0))) 40), (40, o_puti 8 0 43), (43, o_ald 0 44), (44, o_get 8 0 47), (47, o_if_ne 64 50), (50, o_ild 1 51), (51, o_ald 0 52), (52, o_ild 2 53), (53, o_callV M_Mm_numberOf 8 2 56), (56, o_lld 4 58), (58, o_call M_Mm_worked 3 61), (61, o_goto 65), (64, o_push (.long (lI 0)) 65), (65, o_lret)]
theorem k_Mm_exact : ∀ x ∈ T_Mm_exact, SO M_Mm_exact x.1 x.2 := by
  obtain ⟨h0, h1, h2, h3, h4, h7, h10, h11, h12, h13, h14, h17⟩ := e0_Mm_exact
  obtain ⟨h19, h20, h21, h22, h25, h28, h30, h31, h32, h35, h36, h39⟩ := e1_Mm_exact
  obtain ⟨h40, h43, h44, h47, h50, h51, h52, h53, h56, h58, h61, h64⟩ := e2_Mm_exact
  have h65 := e3_Mm_exact
  refine ac (s_aldn (M := M_Mm_exact) (pc := 0) (k := 0) h0) ?_
  refine ac (s_ildn (M := M_Mm_exact) (pc := 1) (k := 1) h1) ?_
  refine ac (s_ildn (M := M_Mm_exact) (pc := 2) (k := 2) h2) ?_
  refine ac (s_ildn (M := M_Mm_exact) (pc := 3) (k := 3) h3) ?_
  refine ac (s_callV (M := M_Mm_exact) (pc := 4) (tz_Mm rfl) h4 q_Mm_mayOperate wd2176 wd2178 wd94 rfl (T := TX8) (N := 29) rfl) ?_
  refine ac (s_if_ne (M := M_Mm_exact) (pc := 7) h7 (by decide)) ?_
  refine ac (s_lconst (M := M_Mm_exact) (pc := 10) h10 (by decide)) ?_
  refine ac (s_lret (M := M_Mm_exact) (pc := 11) h11 rfl) ?_
  refine ac (s_aldn (M := M_Mm_exact) (pc := 12) (k := 0) h12) ?_
  refine ac (s_ildn (M := M_Mm_exact) (pc := 13) (k := 3) h13) ?_
  refine ac (s_callV (M := M_Mm_exact) (pc := 14) (tz_Mm rfl) h14 q_Mm_numberOf wd1992 wd1994 wd69 rfl (T := TX8) (N := 29) rfl) ?_
  refine ac (s_lst (M := M_Mm_exact) (pc := 17) h17 (by decide)) ?_
  refine ac (s_aldn (M := M_Mm_exact) (pc := 19) (k := 0) h19) ?_
  refine ac (s_aldn (M := M_Mm_exact) (pc := 20) (k := 0) h20) ?_
  refine ac (s_ildn (M := M_Mm_exact) (pc := 21) (k := 1) h21) ?_
  refine ac (s_callV (M := M_Mm_exact) (pc := 22) (tz_Mm rfl) h22 q_Mm_divides wd2003 wd2005 wd71 rfl (T := TX8) (N := 29) rfl) ?_
  refine ac (s_if_eq (M := M_Mm_exact) (pc := 25) h25 (by decide)) ?_
  refine ac (s_lld (M := M_Mm_exact) (pc := 28) h28) ?_
  refine ac (s_lconst (M := M_Mm_exact) (pc := 30) h30 (by decide)) ?_
  refine ac (s_lc_ne (M := M_Mm_exact) (pc := 31) h31 h32 (by decide)) ?_
  refine ac (s_iconst (M := M_Mm_exact) (pc := 35) h35 rfl) ?_
  refine ac (s_goto (M := M_Mm_exact) (pc := 36) h36 (by decide)) ?_
  refine ac (s_iconst (M := M_Mm_exact) (pc := 39) h39 rfl) ?_
  refine ac (s_puti (M := M_Mm_exact) (pc := 40) (T := TX8) (N := 29) (ty0 := tyX8) h40 ⟨rfl, in_X8, by decide, wd1689, tyX8_ok, nmX8, (Or.inl rfl)⟩ rfl) ?_
  refine ac (s_aldn (M := M_Mm_exact) (pc := 43) (k := 0) h43) ?_
  refine ac (s_get (M := M_Mm_exact) (pc := 44) (T := TX8) (N := 29) h44 rfl in_X8 (by decide) wd1689) ?_
  refine ac (s_if_ne (M := M_Mm_exact) (pc := 47) h47 (by decide)) ?_
  refine ac (s_ildn (M := M_Mm_exact) (pc := 50) (k := 1) h50) ?_
  refine ac (s_aldn (M := M_Mm_exact) (pc := 51) (k := 0) h51) ?_
  refine ac (s_ildn (M := M_Mm_exact) (pc := 52) (k := 2) h52) ?_
  refine ac (s_callV (M := M_Mm_exact) (pc := 53) (tz_Mm rfl) h53 q_Mm_numberOf wd1992 wd1994 wd69 rfl (T := TX8) (N := 29) rfl) ?_
  refine ac (s_lld (M := M_Mm_exact) (pc := 56) h56) ?_
  refine ac (s_callS (M := M_Mm_exact) (pc := 58) (tz_Mm rfl) h58 q_Mm_worked wd2007 wd2008) ?_
  refine ac (s_goto (M := M_Mm_exact) (pc := 61) h61 (by decide)) ?_
  refine ac (s_lconst (M := M_Mm_exact) (pc := 64) h64 (by decide)) ?_
  refine ac (s_lret (M := M_Mm_exact) (pc := 65) h65 rfl) ?_
  exact ac_nil
theorem e0_Mm_mayOperate : decode prog_10_method_100_code 0 = .ok (.aload_n 0, 1) ∧ decode prog_10_method_100_code 1 = .ok (.iload_n 1, 1) ∧ decode prog_10_method_100_code 2 = .ok (.invokestatic 384, 3) ∧ decode prog_10_method_100_code 5 = .ok (.ifCond .ne 7, 3) ∧ decode prog_10_method_100_code 8 = .ok (.iconst 1, 1) ∧ decode prog_10_method_100_code 9 = .ok (.goto 24, 3) ∧ decode prog_10_method_100_code 12 = .ok (.aload_n 0, 1) ∧ decode prog_10_method_100_code 13 = .ok (.iload_n 2, 1) ∧ decode prog_10_method_100_code 14 = .ok (.invokevirtual 351, 3) ∧ decode prog_10_method_100_code 17 = .ok (.ifCond .eq 15, 3) ∧ decode prog_10_method_100_code 20 = .ok (.aload_n 0, 1) ∧ decode prog_10_method_100_code 21 = .ok (.iload_n 3, 1) := by decide +kernel
theorem e1_Mm_mayOperate : decode prog_10_method_100_code 22 = .ok (.invokevirtual 351, 3) ∧ decode prog_10_method_100_code 25 = .ok (.ifCond .eq 7, 3) ∧ decode prog_10_method_100_code 28 = .ok (.iconst 0, 1) ∧ decode prog_10_method_100_code 29 = .ok (.goto 4, 3) ∧ decode prog_10_method_100_code 32 = .ok (.iconst 2, 1) ∧ decode prog_10_method_100_code 33 = .ok (.putfield 1, 3) ∧ decode prog_10_method_100_code 36 = .ok (.aload_n 0, 1) ∧ decode prog_10_method_100_code 37 = .ok (.getfield 1, 3) ∧ decode prog_10_method_100_code 40 = .ok (.ifCond .ne 7, 3) ∧ decode prog_10_method_100_code 43 = .ok (.iconst 1, 1) ∧ decode prog_10_method_100_code 44 = .ok (.goto 4, 3) ∧ decode prog_10_method_100_code 47 = .ok (.iconst 0, 1) := by decide +kernel
theorem e2_Mm_mayOperate : decode prog_10_method_100_code 48 = .ok (.ireturn, 1) := by decide +kernel
def T_Mm_mayOperate : TT := [(0, o_ald 0 1), (1, o_ild 1 2), (2, o_call M_Mm_isOperation 1 5), (5, o_if_ne 12 8), (8, o_push (.int (iI (1))) 9), (9, o_goto 33), (12, o_ald 0 13), (13, o_ild 2 14), (14, o_callV M_Mm_isRegister 8 2 17), (17, o_if_eq 32 20), (20, o_ald 0 21), (21, o_ild 3 22), (22, o_callV M_Mm_isRegister 8 2 25), (25, o_if_eq 32 28), (28, o_push (.int (iI (0))) 29), (29, o_goto 33), (32, o_push (.int (iI (2))) 33), (33, o_puti 8 0 36), (36, o_ald 0 37), (37, o_get 8 0 40), (40, o_if_ne 47 43), (43, o_push (.int (iI (1))) 44), (44, o_goto 48), (47, o_push (.int (iI (0))) 48), (48, o_zret)]
theorem k_Mm_mayOperate : ∀ x ∈ T_Mm_mayOperate, SO M_Mm_mayOperate x.1 x.2 := by
  obtain ⟨h0, h1, h2, h5, h8, h9, h12, h13, h14, h17, h20, h21⟩ := e0_Mm_mayOperate
  obtain ⟨h22, h25, h28, h29, h32, h33, h36, h37, h40, h43, h44, h47⟩ := e1_Mm_mayOperate
  have h48 := e2_Mm_mayOperate
  refine ac (s_aldn (M := M_Mm_mayOperate) (pc := 0) (k := 0) h0) ?_
  refine ac (s_ildn (M := M_Mm_mayOperate) (pc := 1) (k := 1) h1) ?_
  refine ac (s_callS (M := M_Mm_mayOperate) (pc := 2) (tz_Mm rfl) h2 q_Mm_isOperation wd2180 wd2181) ?_
  refine ac (s_if_ne (M := M_Mm_mayOperate) (pc := 5) h5 (by decide)) ?_
  refine ac (s_iconst (M := M_Mm_mayOperate) (pc := 8) h8 rfl) ?_
  refine ac (s_goto (M := M_Mm_mayOperate) (pc := 9) h9 (by decide)) ?_
  refine ac (s_aldn (M := M_Mm_mayOperate) (pc := 12) (k := 0) h12) ?_
  refine ac (s_ildn (M := M_Mm_mayOperate) (pc := 13) (k := 2) h13) ?_
  refine ac (s_callV (M := M_Mm_mayOperate) (pc := 14) (tz_Mm rfl) h14 q_Mm_isRegister wd2107 wd2109 wd88 rfl (T := TX8) (N := 29) rfl) ?_
  refine ac (s_if_eq (M := M_Mm_mayOperate) (pc := 17) h17 (by decide)) ?_
  refine ac (s_aldn (M := M_Mm_mayOperate) (pc := 20) (k := 0) h20) ?_
  refine ac (s_ildn (M := M_Mm_mayOperate) (pc := 21) (k := 3) h21) ?_
  refine ac (s_callV (M := M_Mm_mayOperate) (pc := 22) (tz_Mm rfl) h22 q_Mm_isRegister wd2107 wd2109 wd88 rfl (T := TX8) (N := 29) rfl) ?_
  refine ac (s_if_eq (M := M_Mm_mayOperate) (pc := 25) h25 (by decide)) ?_
  refine ac (s_iconst (M := M_Mm_mayOperate) (pc := 28) h28 rfl) ?_
  refine ac (s_goto (M := M_Mm_mayOperate) (pc := 29) h29 (by decide)) ?_
  refine ac (s_iconst (M := M_Mm_mayOperate) (pc := 32) h32 rfl) ?_
  refine ac (s_puti (M := M_Mm_mayOperate) (pc := 33) (T := TX8) (N := 29) (ty0 := tyX8) h33 ⟨rfl, in_X8, by decide, wd1689, tyX8_ok, nmX8, (Or.inl rfl)⟩ rfl) ?_
  refine ac (s_aldn (M := M_Mm_mayOperate) (pc := 36) (k := 0) h36) ?_
  refine ac (s_get (M := M_Mm_mayOperate) (pc := 37) (T := TX8) (N := 29) h37 rfl in_X8 (by decide) wd1689) ?_
  refine ac (s_if_ne (M := M_Mm_mayOperate) (pc := 40) h40 (by decide)) ?_
  refine ac (s_iconst (M := M_Mm_mayOperate) (pc := 43) h43 rfl) ?_
  refine ac (s_goto (M := M_Mm_mayOperate) (pc := 44) h44 (by decide)) ?_
  refine ac (s_iconst (M := M_Mm_mayOperate) (pc := 47) h47 rfl) ?_
  refine ac (s_zret (M := M_Mm_mayOperate) (pc := 48) h48 rfl) ?_
  exact ac_nil
theorem e0_Mm_isOperation : decode prog_10_method_99_code 0 = .ok (.iload_n 0, 1) ∧ decode prog_10_method_99_code 1 = .ok (.i2l, 1) ∧ decode prog_10_method_99_code 2 = .ok (.lconst 0, 1) ∧ decode prog_10_method_99_code 3 = .ok (.ldc2_w 382, 3) ∧ decode prog_10_method_99_code 6 = .ok (.invokestatic 57, 3) ∧ decode prog_10_method_99_code 9 = .ok (.ireturn, 1) := by decide +kernel
def T_Mm_isOperation : TT := [(0, o_ild 0 1), (1, o_i2l 2), (2, o_push (.long (lI 0)) 3), (3, o_push (.long (lI (4))) 6), (6, o_call M_Mm_isIn 3 9), (9, o_zret)]
theorem k_Mm_isOperation : ∀ x ∈ T_Mm_isOperation, SO M_Mm_isOperation x.1 x.2 := by
  obtain ⟨h0, h1, h2, h3, h6, h9⟩ := e0_Mm_isOperation
  refine ac (s_ildn (M := M_Mm_isOperation) (pc := 0) (k := 0) h0) ?_
  refine ac (s_i2l (M := M_Mm_isOperation) (pc := 1) h1) ?_
  refine ac (s_lconst (M := M_Mm_isOperation) (pc := 2) h2 (by decide)) ?_
  refine ac (s_ldc2 (M := M_Mm_isOperation) (pc := 3) h3 wd2183) ?_
  refine ac (s_callS (M := M_Mm_isOperation) (pc := 6) (tz_Mm rfl) h6 q_Mm_isIn wd1789 wd1790) ?_
  refine ac (s_zret (M := M_Mm_isOperation) (pc := 9) h9 rfl) ?_
  exact ac_nil
theorem e0_Mm_why : decode prog_10_method_102_code 0 = .ok (.aload_n 0, 1) ∧ decode prog_10_method_102_code 1 = .ok (.iload_n 1, 1) ∧ decode prog_10_method_102_code 2 = .ok (.iload_n 2, 1) ∧ decode prog_10_method_102_code 3 = .ok (.iload_n 3, 1) ∧ decode prog_10_method_102_code 4 = .ok (.invokevirtual 387, 3) ∧ decode prog_10_method_102_code 7 = .ok (.ifCond .ne 5, 3) ∧ decode prog_10_method_102_code 10 = .ok (.iconst 0, 1) ∧ decode prog_10_method_102_code 11 = .ok (.ireturn, 1) ∧ decode prog_10_method_102_code 12 = .ok (.aload_n 0, 1) ∧ decode prog_10_method_102_code 13 = .ok (.iload_n 1, 1) ∧ decode prog_10_method_102_code 14 = .ok (.bipush 8, 2) ∧ decode prog_10_method_102_code 16 = .ok (.iload_n 2, 1) := by decide +kernel
theorem e1_Mm_why : decode prog_10_method_102_code 17 = .ok (.iload_n 3, 1) ∧ decode prog_10_method_102_code 18 = .ok (.invokevirtual 314, 3) ∧ decode prog_10_method_102_code 21 = .ok (.istore 4, 2) ∧ decode prog_10_method_102_code 23 = .ok (.iload 4, 2) ∧ decode prog_10_method_102_code 25 = .ok (.ifCond .eq 6, 3) ∧ decode prog_10_method_102_code 28 = .ok (.iload 4, 2) ∧ decode prog_10_method_102_code 30 = .ok (.ireturn, 1) ∧ decode prog_10_method_102_code 31 = .ok (.aload_n 0, 1) ∧ decode prog_10_method_102_code 32 = .ok (.bipush 8, 2) ∧ decode prog_10_method_102_code 34 = .ok (.invokevirtual 104, 3) ∧ decode prog_10_method_102_code 37 = .ok (.iload_n 1, 1) ∧ decode prog_10_method_102_code 38 = .ok (.aload_n 0, 1) := by decide +kernel
theorem e2_Mm_why : decode prog_10_method_102_code 39 = .ok (.iload_n 2, 1) ∧ decode prog_10_method_102_code 40 = .ok (.invokevirtual 104, 3) ∧ decode prog_10_method_102_code 43 = .ok (.aload_n 0, 1) ∧ decode prog_10_method_102_code 44 = .ok (.iload_n 3, 1) ∧ decode prog_10_method_102_code 45 = .ok (.invokevirtual 104, 3) ∧ decode prog_10_method_102_code 48 = .ok (.invokestatic 118, 3) ∧ decode prog_10_method_102_code 51 = .ok (.lcmp, 1) ∧ decode prog_10_method_102_code 52 = .ok (.ifCond .ne 7, 3) ∧ decode prog_10_method_102_code 55 = .ok (.iconst 0, 1) ∧ decode prog_10_method_102_code 56 = .ok (.goto 5, 3) ∧ decode prog_10_method_102_code 59 = .ok (.bipush 6, 2) ∧ decode prog_10_method_102_code 61 = .ok (.ireturn, 1) := by decide +kernel
def T_Mm_why : TT := [(0, o_ald 0 1), (1, o_ild 1 2), (2, o_ild 2 3), (3, o_ild 3 4), (4, o_callV M_Mm_mayOperate 8 4 7), (7, o_if_ne 12 10), (10, o_push (.int (iI (0))) 11), (11, o_iret), (12, o_ald 0 13), (13, o_ild 1 14), (14, o_push (.int (iI (8))) 16), (16, o_ild 2 17), (17, o_ild 3 18), (18, o_callV M_Mm_works 8 5 21), (21, o_ist 4 23), (23, o_ild 4 25), (25, o_if_eq 31 28), (28, o_ild 4 30), (30, o_iret), (31, o_ald 0 32), (32, o_push (.int (iI (8))) 34), (34, o_callV M_Mm_numberOf 8 2 37), (37, o_ild 1 38), (38, o_ald 0 39), (39, o_ild 2 40), (40, o_callV M_Mm_numberOf 8 2 43), (43, o_ald 0 44), (44, o_ild 3 45), (45, o_callV M_Mm_numberOf 8 2 48), (48, o_call M_Mm_worked 3 51), (51, o_lc_ne 59 55), (55, o_push (.int (iI (0))) 56), (56, o_goto 61), (59, o_push (.int (iI (6))) 61), (61, o_iret)]
theorem k_Mm_why : ∀ x ∈ T_Mm_why, SO M_Mm_why x.1 x.2 := by
  obtain ⟨h0, h1, h2, h3, h4, h7, h10, h11, h12, h13, h14, h16⟩ := e0_Mm_why
  obtain ⟨h17, h18, h21, h23, h25, h28, h30, h31, h32, h34, h37, h38⟩ := e1_Mm_why
  obtain ⟨h39, h40, h43, h44, h45, h48, h51, h52, h55, h56, h59, h61⟩ := e2_Mm_why
  refine ac (s_aldn (M := M_Mm_why) (pc := 0) (k := 0) h0) ?_
  refine ac (s_ildn (M := M_Mm_why) (pc := 1) (k := 1) h1) ?_
  refine ac (s_ildn (M := M_Mm_why) (pc := 2) (k := 2) h2) ?_
  refine ac (s_ildn (M := M_Mm_why) (pc := 3) (k := 3) h3) ?_
  refine ac (s_callV (M := M_Mm_why) (pc := 4) (tz_Mm rfl) h4 q_Mm_mayOperate wd2176 wd2178 wd94 rfl (T := TX8) (N := 29) rfl) ?_
  refine ac (s_if_ne (M := M_Mm_why) (pc := 7) h7 (by decide)) ?_
  refine ac (s_iconst (M := M_Mm_why) (pc := 10) h10 rfl) ?_
  refine ac (s_iret (M := M_Mm_why) (pc := 11) h11 rfl) ?_
  refine ac (s_aldn (M := M_Mm_why) (pc := 12) (k := 0) h12) ?_
  refine ac (s_ildn (M := M_Mm_why) (pc := 13) (k := 1) h13) ?_
  refine ac (s_bipush (M := M_Mm_why) (pc := 14) h14 (by decide)) ?_
  refine ac (s_ildn (M := M_Mm_why) (pc := 16) (k := 2) h16) ?_
  refine ac (s_ildn (M := M_Mm_why) (pc := 17) (k := 3) h17) ?_
  refine ac (s_callV (M := M_Mm_why) (pc := 18) (tz_Mm rfl) h18 q_Mm_works wd1988 wd1990 wd68 rfl (T := TX8) (N := 29) rfl) ?_
  refine ac (s_ist (M := M_Mm_why) (pc := 21) h21 (by decide)) ?_
  refine ac (s_ild (M := M_Mm_why) (pc := 23) h23) ?_
  refine ac (s_if_eq (M := M_Mm_why) (pc := 25) h25 (by decide)) ?_
  refine ac (s_ild (M := M_Mm_why) (pc := 28) h28) ?_
  refine ac (s_iret (M := M_Mm_why) (pc := 30) h30 rfl) ?_
  refine ac (s_aldn (M := M_Mm_why) (pc := 31) (k := 0) h31) ?_
  refine ac (s_bipush (M := M_Mm_why) (pc := 32) h32 (by decide)) ?_
  refine ac (s_callV (M := M_Mm_why) (pc := 34) (tz_Mm rfl) h34 q_Mm_numberOf wd1992 wd1994 wd69 rfl (T := TX8) (N := 29) rfl) ?_
  refine ac (s_ildn (M := M_Mm_why) (pc := 37) (k := 1) h37) ?_
  refine ac (s_aldn (M := M_Mm_why) (pc := 38) (k := 0) h38) ?_
  refine ac (s_ildn (M := M_Mm_why) (pc := 39) (k := 2) h39) ?_
  refine ac (s_callV (M := M_Mm_why) (pc := 40) (tz_Mm rfl) h40 q_Mm_numberOf wd1992 wd1994 wd69 rfl (T := TX8) (N := 29) rfl) ?_
  refine ac (s_aldn (M := M_Mm_why) (pc := 43) (k := 0) h43) ?_
  refine ac (s_ildn (M := M_Mm_why) (pc := 44) (k := 3) h44) ?_
  refine ac (s_callV (M := M_Mm_why) (pc := 45) (tz_Mm rfl) h45 q_Mm_numberOf wd1992 wd1994 wd69 rfl (T := TX8) (N := 29) rfl) ?_
  refine ac (s_callS (M := M_Mm_why) (pc := 48) (tz_Mm rfl) h48 q_Mm_worked wd2007 wd2008) ?_
  refine ac (s_lc_ne (M := M_Mm_why) (pc := 51) h51 h52 (by decide)) ?_
  refine ac (s_iconst (M := M_Mm_why) (pc := 55) h55 rfl) ?_
  refine ac (s_goto (M := M_Mm_why) (pc := 56) h56 (by decide)) ?_
  refine ac (s_bipush (M := M_Mm_why) (pc := 59) h59 (by decide)) ?_
  refine ac (s_iret (M := M_Mm_why) (pc := 61) h61 rfl) ?_
  exact ac_nil
theorem e0_Mm_faults : decode prog_10_method_103_code 0 = .ok (.aload_n 0, 1) ∧ decode prog_10_method_103_code 1 = .ok (.iload_n 1, 1) ∧ decode prog_10_method_103_code 2 = .ok (.invokevirtual 368, 3) ∧ decode prog_10_method_103_code 5 = .ok (.ifCond .eq 11, 3) ∧ decode prog_10_method_103_code 8 = .ok (.aload_n 0, 1) ∧ decode prog_10_method_103_code 9 = .ok (.iload_n 1, 1) ∧ decode prog_10_method_103_code 10 = .ok (.invokevirtual 126, 3) ∧ decode prog_10_method_103_code 13 = .ok (.ifCond .eq 5, 3) ∧ decode prog_10_method_103_code 16 = .ok (.iconst 0, 1) ∧ decode prog_10_method_103_code 17 = .ok (.ireturn, 1) ∧ decode prog_10_method_103_code 18 = .ok (.iconst 0, 1) ∧ decode prog_10_method_103_code 19 = .ok (.istore_n 2, 1) := by decide +kernel
theorem e1_Mm_faults : decode prog_10_method_103_code 20 = .ok (.iconst 0, 1) ∧ decode prog_10_method_103_code 21 = .ok (.istore_n 3, 1) ∧ decode prog_10_method_103_code 22 = .ok (.iload_n 3, 1) ∧ decode prog_10_method_103_code 23 = .ok (.aload_n 0, 1) ∧ decode prog_10_method_103_code 24 = .ok (.invokevirtual 61, 3) ∧ decode prog_10_method_103_code 27 = .ok (.if_icmp .ge 25, 3) ∧ decode prog_10_method_103_code 30 = .ok (.aload_n 0, 1) ∧ decode prog_10_method_103_code 31 = .ok (.iload_n 1, 1) ∧ decode prog_10_method_103_code 32 = .ok (.iload_n 3, 1) ∧ decode prog_10_method_103_code 33 = .ok (.invokevirtual 157, 3) ∧ decode prog_10_method_103_code 36 = .ok (.iconst (-1), 1) ∧ decode prog_10_method_103_code 37 = .ok (.if_icmp .eq 9, 3) := by decide +kernel
theorem e2_Mm_faults : decode prog_10_method_103_code 40 = .ok (.iload_n 2, 1) ∧ decode prog_10_method_103_code 41 = .ok (.iconst 1, 1) ∧ decode prog_10_method_103_code 42 = .ok (.iload_n 3, 1) ∧ decode prog_10_method_103_code 43 = .ok (.ishl, 1) ∧ decode prog_10_method_103_code 44 = .ok (.ior, 1) ∧ decode prog_10_method_103_code 45 = .ok (.istore_n 2, 1) ∧ decode prog_10_method_103_code 46 = .ok (.iinc 3 1, 3) ∧ decode prog_10_method_103_code 49 = .ok (.goto (-27), 3) ∧ decode prog_10_method_103_code 52 = .ok (.iload_n 2, 1) ∧ decode prog_10_method_103_code 53 = .ok (.ireturn, 1) := by decide +kernel
def T_Mm_faults : TT := [(0, o_ald 0 1), (1, o_ild 1 2), (2, o_callV M_Mm_mayRegister 8 2 5), (5, o_if_eq 16 8), (8, o_ald 0 9), (9, o_ild 1 10), (10, o_callV M_Mm_soundNow 8 2 13), (13, o_if_eq 18 16), (16, o_push (.int (iI (0))) 17), (17, o_iret), (18, o_push (.int (iI (0))) 19), (19, o_ist 2 20), (20, o_push (.int (iI (0))) 21), (21, o_ist 3 22), (22, o_ild 3 23), (23, o_ald 0 24), (24, o_callV M_Mm_many 8 1 27), (27, o_icmp_ge 52 30), (30, o_ald 0 31), (31, o_ild 1 32), (32, o_ild 3 33), (33, o_callV M_Mm_mendingRest 8 3 36), (36, o_push (.int (iI (-1))) 37), (37, o_icmp_eq 46 40), (40, o_ild 2 41), (41, o_push (.int (iI (1))) 42), (42, o_ild 3 43), (43, o_ishl 44), (44, o_ior 45), (45, o_ist 2 46), (46, o_iinc 3 (iI (1)) 49), (49, o_goto 22), (52, o_ild 2 53), (53, o_iret)]
theorem k_Mm_faults : ∀ x ∈ T_Mm_faults, SO M_Mm_faults x.1 x.2 := by
  obtain ⟨h0, h1, h2, h5, h8, h9, h10, h13, h16, h17, h18, h19⟩ := e0_Mm_faults
  obtain ⟨h20, h21, h22, h23, h24, h27, h30, h31, h32, h33, h36, h37⟩ := e1_Mm_faults
  obtain ⟨h40, h41, h42, h43, h44, h45, h46, h49, h52, h53⟩ := e2_Mm_faults
  refine ac (s_aldn (M := M_Mm_faults) (pc := 0) (k := 0) h0) ?_
  refine ac (s_ildn (M := M_Mm_faults) (pc := 1) (k := 1) h1) ?_
  refine ac (s_callV (M := M_Mm_faults) (pc := 2) (tz_Mm rfl) h2 q_Mm_mayRegister wd2127 wd2129 wd90 rfl (T := TX8) (N := 29) rfl) ?_
  refine ac (s_if_eq (M := M_Mm_faults) (pc := 5) h5 (by decide)) ?_
  refine ac (s_aldn (M := M_Mm_faults) (pc := 8) (k := 0) h8) ?_
  refine ac (s_ildn (M := M_Mm_faults) (pc := 9) (k := 1) h9) ?_
  refine ac (s_callV (M := M_Mm_faults) (pc := 10) (tz_Mm rfl) h10 q_Mm_soundNow wd2013 wd2015 wd72 rfl (T := TX8) (N := 29) rfl) ?_
  refine ac (s_if_eq (M := M_Mm_faults) (pc := 13) h13 (by decide)) ?_
  refine ac (s_iconst (M := M_Mm_faults) (pc := 16) h16 rfl) ?_
  refine ac (s_iret (M := M_Mm_faults) (pc := 17) h17 rfl) ?_
  refine ac (s_iconst (M := M_Mm_faults) (pc := 18) h18 rfl) ?_
  refine ac (s_istn (M := M_Mm_faults) (pc := 19) (k := 2) h19 (by decide)) ?_
  refine ac (s_iconst (M := M_Mm_faults) (pc := 20) h20 rfl) ?_
  refine ac (s_istn (M := M_Mm_faults) (pc := 21) (k := 3) h21 (by decide)) ?_
  refine ac (s_ildn (M := M_Mm_faults) (pc := 22) (k := 3) h22) ?_
  refine ac (s_aldn (M := M_Mm_faults) (pc := 23) (k := 0) h23) ?_
  refine ac (s_callV (M := M_Mm_faults) (pc := 24) (tz_Mm rfl) h24 q_Mm_many wd1849 wd1851 wd38 rfl (T := TX8) (N := 29) rfl) ?_
  refine ac (s_icmp_ge (M := M_Mm_faults) (pc := 27) h27 (by decide)) ?_
  refine ac (s_aldn (M := M_Mm_faults) (pc := 30) (k := 0) h30) ?_
  refine ac (s_ildn (M := M_Mm_faults) (pc := 31) (k := 1) h31) ?_
  refine ac (s_ildn (M := M_Mm_faults) (pc := 32) (k := 3) h32) ?_
  refine ac (s_callV (M := M_Mm_faults) (pc := 33) (tz_Mm rfl) h33 q_Mm_mendingRest wd2045 wd2047 wd80 rfl (T := TX8) (N := 29) rfl) ?_
  refine ac (s_iconst (M := M_Mm_faults) (pc := 36) h36 rfl) ?_
  refine ac (s_icmp_eq (M := M_Mm_faults) (pc := 37) h37 (by decide)) ?_
  refine ac (s_ildn (M := M_Mm_faults) (pc := 40) (k := 2) h40) ?_
  refine ac (s_iconst (M := M_Mm_faults) (pc := 41) h41 rfl) ?_
  refine ac (s_ildn (M := M_Mm_faults) (pc := 42) (k := 3) h42) ?_
  refine ac (s_ishl (M := M_Mm_faults) (pc := 43) h43) ?_
  refine ac (s_ior (M := M_Mm_faults) (pc := 44) h44) ?_
  refine ac (s_istn (M := M_Mm_faults) (pc := 45) (k := 2) h45 (by decide)) ?_
  refine ac (s_iinc (M := M_Mm_faults) (pc := 46) h46 rfl (by decide)) ?_
  refine ac (s_goto (M := M_Mm_faults) (pc := 49) h49 (by decide)) ?_
  refine ac (s_ildn (M := M_Mm_faults) (pc := 52) (k := 2) h52) ?_
  refine ac (s_iret (M := M_Mm_faults) (pc := 53) h53 rfl) ?_
  exact ac_nil
theorem e0_Mm_numberWith : decode prog_10_method_105_code 0 = .ok (.aload_n 0, 1) ∧ decode prog_10_method_105_code 1 = .ok (.iload_n 1, 1) ∧ decode prog_10_method_105_code 2 = .ok (.iload_n 2, 1) ∧ decode prog_10_method_105_code 3 = .ok (.iload_n 3, 1) ∧ decode prog_10_method_105_code 4 = .ok (.invokevirtual 390, 3) ∧ decode prog_10_method_105_code 7 = .ok (.ifCond .ne 5, 3) ∧ decode prog_10_method_105_code 10 = .ok (.lconst 0, 1) ∧ decode prog_10_method_105_code 11 = .ok (.lreturn, 1) ∧ decode prog_10_method_105_code 12 = .ok (.aload_n 0, 1) ∧ decode prog_10_method_105_code 13 = .ok (.iload_n 1, 1) ∧ decode prog_10_method_105_code 14 = .ok (.bipush 8, 2) ∧ decode prog_10_method_105_code 16 = .ok (.invokevirtual 143, 3) := by decide +kernel
theorem e1_Mm_numberWith : decode prog_10_method_105_code 19 = .ok (.aload_n 0, 1) ∧ decode prog_10_method_105_code 20 = .ok (.bipush 8, 2) ∧ decode prog_10_method_105_code 22 = .ok (.iload_n 2, 1) ∧ decode prog_10_method_105_code 23 = .ok (.iload_n 3, 1) ∧ decode prog_10_method_105_code 24 = .ok (.invokevirtual 82, 3) ∧ decode prog_10_method_105_code 27 = .ok (.aload_n 0, 1) ∧ decode prog_10_method_105_code 28 = .ok (.bipush 8, 2) ∧ decode prog_10_method_105_code 30 = .ok (.invokevirtual 104, 3) ∧ decode prog_10_method_105_code 33 = .ok (.lreturn, 1) := by decide +kernel
def T_Mm_numberWith : TT := [(0, o_ald 0 1), (1, o_ild 1 2), (2, o_ild 2 3), (3, o_ild 3 4), (4, o_callV M_Mm_mayRest 8 4 7), (7, o_if_ne 12 10), (10, o_push (.long (lI 0)) 11), (11, o_lret), (12, o_ald 0 13), (13, o_ild 1 14), (14, o_push (.int (iI (8))) 16), (16, o_callV M_Mm_copiesRow 8 3 19), (19, o_ald 0 20), (20, o_push (.int (iI (8))) 22), (22, o_ild 2 23), (23, o_ild 3 24), (24, o_callV M_Mm_puts 8 4 27), (27, o_ald 0 28), (28, o_push (.int (iI (8))) 30), (30, o_callV M_Mm_numberOf 8 2 33), (33, o_lret)]
theorem k_Mm_numberWith : ∀ x ∈ T_Mm_numberWith, SO M_Mm_numberWith x.1 x.2 := by
  obtain ⟨h0, h1, h2, h3, h4, h7, h10, h11, h12, h13, h14, h16⟩ := e0_Mm_numberWith
  obtain ⟨h19, h20, h22, h23, h24, h27, h28, h30, h33⟩ := e1_Mm_numberWith
  refine ac (s_aldn (M := M_Mm_numberWith) (pc := 0) (k := 0) h0) ?_
  refine ac (s_ildn (M := M_Mm_numberWith) (pc := 1) (k := 1) h1) ?_
  refine ac (s_ildn (M := M_Mm_numberWith) (pc := 2) (k := 2) h2) ?_
  refine ac (s_ildn (M := M_Mm_numberWith) (pc := 3) (k := 3) h3) ?_
  refine ac (s_callV (M := M_Mm_numberWith) (pc := 4) (tz_Mm rfl) h4 q_Mm_mayRest wd2196 wd2198 wd95 rfl (T := TX8) (N := 29) rfl) ?_
  refine ac (s_if_ne (M := M_Mm_numberWith) (pc := 7) h7 (by decide)) ?_
  refine ac (s_lconst (M := M_Mm_numberWith) (pc := 10) h10 (by decide)) ?_
  refine ac (s_lret (M := M_Mm_numberWith) (pc := 11) h11 rfl) ?_
  refine ac (s_aldn (M := M_Mm_numberWith) (pc := 12) (k := 0) h12) ?_
  refine ac (s_ildn (M := M_Mm_numberWith) (pc := 13) (k := 1) h13) ?_
  refine ac (s_bipush (M := M_Mm_numberWith) (pc := 14) h14 (by decide)) ?_
  refine ac (s_callV (M := M_Mm_numberWith) (pc := 16) (tz_Mm rfl) h16 q_Mm_copiesRow wd1980 wd1982 wd66 rfl (T := TX8) (N := 29) rfl) ?_
  refine ac (s_aldn (M := M_Mm_numberWith) (pc := 19) (k := 0) h19) ?_
  refine ac (s_bipush (M := M_Mm_numberWith) (pc := 20) h20 (by decide)) ?_
  refine ac (s_ildn (M := M_Mm_numberWith) (pc := 22) (k := 2) h22) ?_
  refine ac (s_ildn (M := M_Mm_numberWith) (pc := 23) (k := 3) h23) ?_
  refine ac (s_callV (M := M_Mm_numberWith) (pc := 24) (tz_Mm rfl) h24 q_Mm_puts wd1921 wd1923 wd53 rfl (T := TX8) (N := 29) rfl) ?_
  refine ac (s_aldn (M := M_Mm_numberWith) (pc := 27) (k := 0) h27) ?_
  refine ac (s_bipush (M := M_Mm_numberWith) (pc := 28) h28 (by decide)) ?_
  refine ac (s_callV (M := M_Mm_numberWith) (pc := 30) (tz_Mm rfl) h30 q_Mm_numberOf wd1992 wd1994 wd69 rfl (T := TX8) (N := 29) rfl) ?_
  refine ac (s_lret (M := M_Mm_numberWith) (pc := 33) h33 rfl) ?_
  exact ac_nil
theorem e0_Mm_mayRest : decode prog_10_method_104_code 0 = .ok (.aload_n 0, 1) ∧ decode prog_10_method_104_code 1 = .ok (.iload_n 1, 1) ∧ decode prog_10_method_104_code 2 = .ok (.invokevirtual 351, 3) ∧ decode prog_10_method_104_code 5 = .ok (.ifCond .eq 15, 3) ∧ decode prog_10_method_104_code 8 = .ok (.aload_n 0, 1) ∧ decode prog_10_method_104_code 9 = .ok (.iload_n 2, 1) ∧ decode prog_10_method_104_code 10 = .ok (.invokevirtual 348, 3) ∧ decode prog_10_method_104_code 13 = .ok (.ifCond .eq 7, 3) ∧ decode prog_10_method_104_code 16 = .ok (.iconst 1, 1) ∧ decode prog_10_method_104_code 17 = .ok (.goto 4, 3) ∧ decode prog_10_method_104_code 20 = .ok (.iconst 0, 1) ∧ decode prog_10_method_104_code 21 = .ok (.istore 4, 2) := by decide +kernel
theorem e1_Mm_mayRest : decode prog_10_method_104_code 23 = .ok (.aload_n 0, 1) ∧ decode prog_10_method_104_code 24 = .ok (.iload 4, 2) ∧ decode prog_10_method_104_code 26 = .ok (.ifCond .ne 7, 3) ∧ decode prog_10_method_104_code 29 = .ok (.iconst 1, 1) ∧ decode prog_10_method_104_code 30 = .ok (.goto 25, 3) ∧ decode prog_10_method_104_code 33 = .ok (.iload_n 3, 1) ∧ decode prog_10_method_104_code 34 = .ok (.i2l, 1) ∧ decode prog_10_method_104_code 35 = .ok (.lconst 0, 1) ∧ decode prog_10_method_104_code 36 = .ok (.aload_n 0, 1) ∧ decode prog_10_method_104_code 37 = .ok (.iload_n 2, 1) ∧ decode prog_10_method_104_code 38 = .ok (.invokevirtual 65, 3) ∧ decode prog_10_method_104_code 41 = .ok (.iconst 1, 1) := by decide +kernel
theorem e2_Mm_mayRest : decode prog_10_method_104_code 42 = .ok (.isub, 1) ∧ decode prog_10_method_104_code 43 = .ok (.i2l, 1) ∧ decode prog_10_method_104_code 44 = .ok (.invokestatic 57, 3) ∧ decode prog_10_method_104_code 47 = .ok (.ifCond .eq 7, 3) ∧ decode prog_10_method_104_code 50 = .ok (.iconst 0, 1) ∧ decode prog_10_method_104_code 51 = .ok (.goto 4, 3) ∧ decode prog_10_method_104_code 54 = .ok (.iconst 2, 1) ∧ decode prog_10_method_104_code 55 = .ok (.putfield 1, 3) ∧ decode prog_10_method_104_code 58 = .ok (.aload_n 0, 1) ∧ decode prog_10_method_104_code 59 = .ok (.getfield 1, 3) ∧ decode prog_10_method_104_code 62 = .ok (.ifCond .ne 7, 3) ∧ decode prog_10_method_104_code 65 = .ok (.iconst 1, 1) := by decide +kernel
theorem e3_Mm_mayRest : decode prog_10_method_104_code 66 = .ok (.goto 4, 3) ∧ decode prog_10_method_104_code 69 = .ok (.iconst 0, 1) ∧ decode prog_10_method_104_code 70 = .ok (.ireturn, 1) := by decide +kernel
def T_Mm_mayRest : TT := [(0, o_ald 0 1), (1, o_ild 1 2), (2, o_callV M_Mm_isRegister 8 2 5), (5, o_if_eq 20 8), (8, o_ald 0 9), (9, o_ild 2 10), (10, o_callV M_Mm_isModulus 8 2 13), (13, o_if_eq 20 16), (16, o_push (.int (iI (1))) 17), (17, o_goto 21), (20, o_push (.int (iI (0))) 21), (21, o_ist 4 23), (23, o_ald 0 24), (24, o_ild 4 26), (26, o_if_ne 33 29), (29, o_push (.int (iI (1))) 30), (30, o_goto 55), (33, o_ild 3 34), (34, o_i2l 35), (35, o_push (.long (lI 0)) 36), (36, o_ald 0 37), (37, o_ild 2 38), (38, o_callV M_Mm_mod 8 2 41), (41, o_push (.int (iI (1))) 42), (42, o_isub 43), (43, o_i2l 44), (44, o_call M_Mm_isIn 3 47), (47, o_if_eq 54 50), (50, o_push (.int (iI (0))) 51), (51, o_goto 55), (54, o_push (.int (iI (2))) 55), (55, o_puti 8 0 58), (58, o_ald 0 59), (59, o_get 8 0 62), (62, o_if_ne 69 65), (65, o_push (.int (iI (1))) 66), (66, o_goto 70), (69, o_push (.int (iI (0))) 70), (70, o_zret)]
theorem k_Mm_mayRest : ∀ x ∈ T_Mm_mayRest, SO M_Mm_mayRest x.1 x.2 := by
  obtain ⟨h0, h1, h2, h5, h8, h9, h10, h13, h16, h17, h20, h21⟩ := e0_Mm_mayRest
  obtain ⟨h23, h24, h26, h29, h30, h33, h34, h35, h36, h37, h38, h41⟩ := e1_Mm_mayRest
  obtain ⟨h42, h43, h44, h47, h50, h51, h54, h55, h58, h59, h62, h65⟩ := e2_Mm_mayRest
  obtain ⟨h66, h69, h70⟩ := e3_Mm_mayRest
  refine ac (s_aldn (M := M_Mm_mayRest) (pc := 0) (k := 0) h0) ?_
  refine ac (s_ildn (M := M_Mm_mayRest) (pc := 1) (k := 1) h1) ?_
  refine ac (s_callV (M := M_Mm_mayRest) (pc := 2) (tz_Mm rfl) h2 q_Mm_isRegister wd2107 wd2109 wd88 rfl (T := TX8) (N := 29) rfl) ?_
  refine ac (s_if_eq (M := M_Mm_mayRest) (pc := 5) h5 (by decide)) ?_
  refine ac (s_aldn (M := M_Mm_mayRest) (pc := 8) (k := 0) h8) ?_
  refine ac (s_ildn (M := M_Mm_mayRest) (pc := 9) (k := 2) h9) ?_
  refine ac (s_callV (M := M_Mm_mayRest) (pc := 10) (tz_Mm rfl) h10 q_Mm_isModulus wd2083 wd2085 wd85 rfl (T := TX8) (N := 29) rfl) ?_
  refine ac (s_if_eq (M := M_Mm_mayRest) (pc := 13) h13 (by decide)) ?_
  refine ac (s_iconst (M := M_Mm_mayRest) (pc := 16) h16 rfl) ?_
  refine ac (s_goto (M := M_Mm_mayRest) (pc := 17) h17 (by decide)) ?_
  refine ac (s_iconst (M := M_Mm_mayRest) (pc := 20) h20 rfl) ?_
  refine ac (s_ist (M := M_Mm_mayRest) (pc := 21) h21 (by decide)) ?_
  refine ac (s_aldn (M := M_Mm_mayRest) (pc := 23) (k := 0) h23) ?_
  refine ac (s_ild (M := M_Mm_mayRest) (pc := 24) h24) ?_
  refine ac (s_if_ne (M := M_Mm_mayRest) (pc := 26) h26 (by decide)) ?_
  refine ac (s_iconst (M := M_Mm_mayRest) (pc := 29) h29 rfl) ?_
  refine ac (s_goto (M := M_Mm_mayRest) (pc := 30) h30 (by decide)) ?_
  refine ac (s_ildn (M := M_Mm_mayRest) (pc := 33) (k := 3) h33) ?_
  refine ac (s_i2l (M := M_Mm_mayRest) (pc := 34) h34) ?_
  refine ac (s_lconst (M := M_Mm_mayRest) (pc := 35) h35 (by decide)) ?_
  refine ac (s_aldn (M := M_Mm_mayRest) (pc := 36) (k := 0) h36) ?_
  refine ac (s_ildn (M := M_Mm_mayRest) (pc := 37) (k := 2) h37) ?_
  refine ac (s_callV (M := M_Mm_mayRest) (pc := 38) (tz_Mm rfl) h38 q_Mm_mod wd1866 wd1868 wd42 rfl (T := TX8) (N := 29) rfl) ?_
  refine ac (s_iconst (M := M_Mm_mayRest) (pc := 41) h41 rfl) ?_
  refine ac (s_isub (M := M_Mm_mayRest) (pc := 42) h42) ?_
  refine ac (s_i2l (M := M_Mm_mayRest) (pc := 43) h43) ?_
  refine ac (s_callS (M := M_Mm_mayRest) (pc := 44) (tz_Mm rfl) h44 q_Mm_isIn wd1789 wd1790) ?_
  refine ac (s_if_eq (M := M_Mm_mayRest) (pc := 47) h47 (by decide)) ?_
  refine ac (s_iconst (M := M_Mm_mayRest) (pc := 50) h50 rfl) ?_
  refine ac (s_goto (M := M_Mm_mayRest) (pc := 51) h51 (by decide)) ?_
  refine ac (s_iconst (M := M_Mm_mayRest) (pc := 54) h54 rfl) ?_
  refine ac (s_puti (M := M_Mm_mayRest) (pc := 55) (T := TX8) (N := 29) (ty0 := tyX8) h55 ⟨rfl, in_X8, by decide, wd1689, tyX8_ok, nmX8, (Or.inl rfl)⟩ rfl) ?_
  refine ac (s_aldn (M := M_Mm_mayRest) (pc := 58) (k := 0) h58) ?_
  refine ac (s_get (M := M_Mm_mayRest) (pc := 59) (T := TX8) (N := 29) h59 rfl in_X8 (by decide) wd1689) ?_
  refine ac (s_if_ne (M := M_Mm_mayRest) (pc := 62) h62 (by decide)) ?_
  refine ac (s_iconst (M := M_Mm_mayRest) (pc := 65) h65 rfl) ?_
  refine ac (s_goto (M := M_Mm_mayRest) (pc := 66) h66 (by decide)) ?_
  refine ac (s_iconst (M := M_Mm_mayRest) (pc := 69) h69 rfl) ?_
  refine ac (s_zret (M := M_Mm_mayRest) (pc := 70) h70 rfl) ?_
  exact ac_nil
theorem e0_Mm_nextModulus : decode prog_10_method_107_code 0 = .ok (.aload_n 0, 1) ∧ decode prog_10_method_107_code 1 = .ok (.iconst 0, 1) ∧ decode prog_10_method_107_code 2 = .ok (.putfield 1, 3) ∧ decode prog_10_method_107_code 5 = .ok (.iconst 2, 1) ∧ decode prog_10_method_107_code 6 = .ok (.istore_n 1, 1) ∧ decode prog_10_method_107_code 7 = .ok (.iload_n 1, 1) ∧ decode prog_10_method_107_code 8 = .ok (.bipush 97, 2) ∧ decode prog_10_method_107_code 10 = .ok (.if_icmp .gt 19, 3) ∧ decode prog_10_method_107_code 13 = .ok (.aload_n 0, 1) ∧ decode prog_10_method_107_code 14 = .ok (.iload_n 1, 1) ∧ decode prog_10_method_107_code 15 = .ok (.invokevirtual 393, 3) ∧ decode prog_10_method_107_code 18 = .ok (.ifCond .eq 5, 3) := by decide +kernel
theorem e1_Mm_nextModulus : decode prog_10_method_107_code 21 = .ok (.iload_n 1, 1) ∧ decode prog_10_method_107_code 22 = .ok (.ireturn, 1) ∧ decode prog_10_method_107_code 23 = .ok (.iinc 1 1, 3) ∧ decode prog_10_method_107_code 26 = .ok (.goto (-19), 3) ∧ decode prog_10_method_107_code 29 = .ok (.iconst (-1), 1) ∧ decode prog_10_method_107_code 30 = .ok (.ireturn, 1) := by decide +kernel
def T_Mm_nextModulus : TT := [(0, o_ald 0 1), (1, o_push (.int (iI (0))) 2), (2, o_puti 8 0 5), (5, o_push (.int (iI (2))) 6), (6, o_ist 1 7), (7, o_ild 1 8), (8, o_push (.int (iI (97))) 10), (10, o_icmp_gt 29 13), (13, o_ald 0 14), (14, o_ild 1 15), (15, o_callV M_Mm_canGrow 8 2 18), (18, o_if_eq 23 21), (21, o_ild 1 22), (22, o_iret), (23, o_iinc 1 (iI (1)) 26), (26, o_goto 7), (29, o_push (.int (iI (-1))) 30), (30, o_iret)]
theorem k_Mm_nextModulus : ∀ x ∈ T_Mm_nextModulus, SO M_Mm_nextModulus x.1 x.2 := by
  obtain ⟨h0, h1, h2, h5, h6, h7, h8, h10, h13, h14, h15, h18⟩ := e0_Mm_nextModulus
  obtain ⟨h21, h22, h23, h26, h29, h30⟩ := e1_Mm_nextModulus
  refine ac (s_aldn (M := M_Mm_nextModulus) (pc := 0) (k := 0) h0) ?_
  refine ac (s_iconst (M := M_Mm_nextModulus) (pc := 1) h1 rfl) ?_
  refine ac (s_puti (M := M_Mm_nextModulus) (pc := 2) (T := TX8) (N := 29) (ty0 := tyX8) h2 ⟨rfl, in_X8, by decide, wd1689, tyX8_ok, nmX8, (Or.inl rfl)⟩ rfl) ?_
  refine ac (s_iconst (M := M_Mm_nextModulus) (pc := 5) h5 rfl) ?_
  refine ac (s_istn (M := M_Mm_nextModulus) (pc := 6) (k := 1) h6 (by decide)) ?_
  refine ac (s_ildn (M := M_Mm_nextModulus) (pc := 7) (k := 1) h7) ?_
  refine ac (s_bipush (M := M_Mm_nextModulus) (pc := 8) h8 (by decide)) ?_
  refine ac (s_icmp_gt (M := M_Mm_nextModulus) (pc := 10) h10 (by decide)) ?_
  refine ac (s_aldn (M := M_Mm_nextModulus) (pc := 13) (k := 0) h13) ?_
  refine ac (s_ildn (M := M_Mm_nextModulus) (pc := 14) (k := 1) h14) ?_
  refine ac (s_callV (M := M_Mm_nextModulus) (pc := 15) (tz_Mm rfl) h15 q_Mm_canGrow wd2204 wd2206 wd96 rfl (T := TX8) (N := 29) rfl) ?_
  refine ac (s_if_eq (M := M_Mm_nextModulus) (pc := 18) h18 (by decide)) ?_
  refine ac (s_ildn (M := M_Mm_nextModulus) (pc := 21) (k := 1) h21) ?_
  refine ac (s_iret (M := M_Mm_nextModulus) (pc := 22) h22 rfl) ?_
  refine ac (s_iinc (M := M_Mm_nextModulus) (pc := 23) h23 rfl (by decide)) ?_
  refine ac (s_goto (M := M_Mm_nextModulus) (pc := 26) h26 (by decide)) ?_
  refine ac (s_iconst (M := M_Mm_nextModulus) (pc := 29) h29 rfl) ?_
  refine ac (s_iret (M := M_Mm_nextModulus) (pc := 30) h30 rfl) ?_
  exact ac_nil
theorem e0_Mm_canGrow : decode prog_10_method_106_code 0 = .ok (.aload_n 0, 1) ∧ decode prog_10_method_106_code 1 = .ok (.invokevirtual 61, 3) ∧ decode prog_10_method_106_code 4 = .ok (.bipush 6, 2) ∧ decode prog_10_method_106_code 6 = .ok (.if_icmp .ge 29, 3) ∧ decode prog_10_method_106_code 9 = .ok (.aload_n 0, 1) ∧ decode prog_10_method_106_code 10 = .ok (.iload_n 1, 1) ∧ decode prog_10_method_106_code 11 = .ok (.invokevirtual 233, 3) ∧ decode prog_10_method_106_code 14 = .ok (.ifCond .ne 21, 3) ∧ decode prog_10_method_106_code 17 = .ok (.aload_n 0, 1) ∧ decode prog_10_method_106_code 18 = .ok (.invokevirtual 93, 3) ∧ decode prog_10_method_106_code 21 = .ok (.iload_n 1, 1) ∧ decode prog_10_method_106_code 22 = .ok (.i2l, 1) := by decide +kernel
theorem e1_Mm_canGrow : decode prog_10_method_106_code 23 = .ok (.lmul, 1) ∧ decode prog_10_method_106_code 24 = .ok (.ldc2_w 231, 3) ∧ decode prog_10_method_106_code 27 = .ok (.lcmp, 1) ∧ decode prog_10_method_106_code 28 = .ok (.ifCond .gt 7, 3) ∧ decode prog_10_method_106_code 31 = .ok (.iconst 1, 1) ∧ decode prog_10_method_106_code 32 = .ok (.goto 4, 3) ∧ decode prog_10_method_106_code 35 = .ok (.iconst 0, 1) ∧ decode prog_10_method_106_code 36 = .ok (.ireturn, 1) := by decide +kernel
def T_Mm_canGrow : TT := [(0, o_ald 0 1), (1, o_callV M_Mm_many 8 1 4), (4, o_push (.int (iI (6))) 6), (6, o_icmp_ge 35 9), (9, o_ald 0 10), (10, o_ild 1 11), (11, o_callV M_Mm_isCommon 8 2 14), (14, o_if_ne 35 17), (17, o_ald 0 18), (18, o_callV M_Mm_whole 8 1 21), (21, o_ild 1 22), (22, o_i2l 23), (23, o_lmul 24), (24, o_push (.long (lI (1000000000))) 27), (27, o_lc_gt 35 31), (31, o_push (.int (iI (1))) 32), (32, o_goto 36), (35, o_push (.int (iI (0))) 36), (36, o_zret)]
theorem k_Mm_canGrow : ∀ x ∈ T_Mm_canGrow, SO M_Mm_canGrow x.1 x.2 := by
  obtain ⟨h0, h1, h4, h6, h9, h10, h11, h14, h17, h18, h21, h22⟩ := e0_Mm_canGrow
  obtain ⟨h23, h24, h27, h28, h31, h32, h35, h36⟩ := e1_Mm_canGrow
  refine ac (s_aldn (M := M_Mm_canGrow) (pc := 0) (k := 0) h0) ?_
  refine ac (s_callV (M := M_Mm_canGrow) (pc := 1) (tz_Mm rfl) h1 q_Mm_many wd1849 wd1851 wd38 rfl (T := TX8) (N := 29) rfl) ?_
  refine ac (s_bipush (M := M_Mm_canGrow) (pc := 4) h4 (by decide)) ?_
  refine ac (s_icmp_ge (M := M_Mm_canGrow) (pc := 6) h6 (by decide)) ?_
  refine ac (s_aldn (M := M_Mm_canGrow) (pc := 9) (k := 0) h9) ?_
  refine ac (s_ildn (M := M_Mm_canGrow) (pc := 10) (k := 1) h10) ?_
  refine ac (s_callV (M := M_Mm_canGrow) (pc := 11) (tz_Mm rfl) h11 q_Mm_isCommon wd1871 wd1873 wd43 rfl (T := TX8) (N := 29) rfl) ?_
  refine ac (s_if_ne (M := M_Mm_canGrow) (pc := 14) h14 (by decide)) ?_
  refine ac (s_aldn (M := M_Mm_canGrow) (pc := 17) (k := 0) h17) ?_
  refine ac (s_callV (M := M_Mm_canGrow) (pc := 18) (tz_Mm rfl) h18 q_Mm_whole wd1858 wd1860 wd40 rfl (T := TX8) (N := 29) rfl) ?_
  refine ac (s_ildn (M := M_Mm_canGrow) (pc := 21) (k := 1) h21) ?_
  refine ac (s_i2l (M := M_Mm_canGrow) (pc := 22) h22) ?_
  refine ac (s_lmul (M := M_Mm_canGrow) (pc := 23) h23) ?_
  refine ac (s_ldc2 (M := M_Mm_canGrow) (pc := 24) h24 wd1870) ?_
  refine ac (s_lc_gt (M := M_Mm_canGrow) (pc := 27) h27 h28 (by decide)) ?_
  refine ac (s_iconst (M := M_Mm_canGrow) (pc := 31) h31 rfl) ?_
  refine ac (s_goto (M := M_Mm_canGrow) (pc := 32) h32 (by decide)) ?_
  refine ac (s_iconst (M := M_Mm_canGrow) (pc := 35) h35 rfl) ?_
  refine ac (s_zret (M := M_Mm_canGrow) (pc := 36) h36 rfl) ?_
  exact ac_nil
theorem e0_Mm_spare : decode prog_10_method_110_code 0 = .ok (.aload_n 0, 1) ∧ decode prog_10_method_110_code 1 = .ok (.iconst 0, 1) ∧ decode prog_10_method_110_code 2 = .ok (.putfield 1, 3) ∧ decode prog_10_method_110_code 5 = .ok (.iconst 0, 1) ∧ decode prog_10_method_110_code 6 = .ok (.istore_n 1, 1) ∧ decode prog_10_method_110_code 7 = .ok (.iconst 0, 1) ∧ decode prog_10_method_110_code 8 = .ok (.istore_n 2, 1) ∧ decode prog_10_method_110_code 9 = .ok (.iload_n 2, 1) ∧ decode prog_10_method_110_code 10 = .ok (.aload_n 0, 1) ∧ decode prog_10_method_110_code 11 = .ok (.invokevirtual 61, 3) ∧ decode prog_10_method_110_code 14 = .ok (.if_icmp .ge 23, 3) ∧ decode prog_10_method_110_code 17 = .ok (.aload_n 0, 1) := by decide +kernel
theorem e1_Mm_spare : decode prog_10_method_110_code 18 = .ok (.iload_n 2, 1) ∧ decode prog_10_method_110_code 19 = .ok (.invokevirtual 400, 3) ∧ decode prog_10_method_110_code 22 = .ok (.ifCond .eq 9, 3) ∧ decode prog_10_method_110_code 25 = .ok (.iload_n 1, 1) ∧ decode prog_10_method_110_code 26 = .ok (.iconst 1, 1) ∧ decode prog_10_method_110_code 27 = .ok (.iload_n 2, 1) ∧ decode prog_10_method_110_code 28 = .ok (.ishl, 1) ∧ decode prog_10_method_110_code 29 = .ok (.ior, 1) ∧ decode prog_10_method_110_code 30 = .ok (.istore_n 1, 1) ∧ decode prog_10_method_110_code 31 = .ok (.iinc 2 1, 3) ∧ decode prog_10_method_110_code 34 = .ok (.goto (-25), 3) ∧ decode prog_10_method_110_code 37 = .ok (.iload_n 1, 1) := by decide +kernel
theorem e2_Mm_spare : decode prog_10_method_110_code 38 = .ok (.ireturn, 1) := by decide +kernel
def T_Mm_spare : TT := [(0, o_ald 0 1), (1, o_push (.int (iI (0))) 2), (2, o_puti 8 0 5), (5, o_push (.int (iI (0))) 6), (6, o_ist 1 7), (7, o_push (.int (iI (0))) 8), (8, o_ist 2 9), (9, o_ild 2 10), (10, o_ald 0 11), (11, o_callV M_Mm_many 8 1 14), (14, o_icmp_ge 37 17), (17, o_ald 0 18), (18, o_ild 2 19), (19, o_callV M_Mm_canDrop 8 2 22), (22, o_if_eq 31 25), (25, o_ild 1 26), (26, o_push (.int (iI (1))) 27), (27, o_ild 2 28), (28, o_ishl 29), (29, o_ior 30), (30, o_ist 1 31), (31, o_iinc 2 (iI (1)) 34), (34, o_goto 9), (37, o_ild 1 38), (38, o_iret)]
theorem k_Mm_spare : ∀ x ∈ T_Mm_spare, SO M_Mm_spare x.1 x.2 := by
  obtain ⟨h0, h1, h2, h5, h6, h7, h8, h9, h10, h11, h14, h17⟩ := e0_Mm_spare
  obtain ⟨h18, h19, h22, h25, h26, h27, h28, h29, h30, h31, h34, h37⟩ := e1_Mm_spare
  have h38 := e2_Mm_spare
  refine ac (s_aldn (M := M_Mm_spare) (pc := 0) (k := 0) h0) ?_
  refine ac (s_iconst (M := M_Mm_spare) (pc := 1) h1 rfl) ?_
  refine ac (s_puti (M := M_Mm_spare) (pc := 2) (T := TX8) (N := 29) (ty0 := tyX8) h2 ⟨rfl, in_X8, by decide, wd1689, tyX8_ok, nmX8, (Or.inl rfl)⟩ rfl) ?_
  refine ac (s_iconst (M := M_Mm_spare) (pc := 5) h5 rfl) ?_
  refine ac (s_istn (M := M_Mm_spare) (pc := 6) (k := 1) h6 (by decide)) ?_
  refine ac (s_iconst (M := M_Mm_spare) (pc := 7) h7 rfl) ?_
  refine ac (s_istn (M := M_Mm_spare) (pc := 8) (k := 2) h8 (by decide)) ?_
  refine ac (s_ildn (M := M_Mm_spare) (pc := 9) (k := 2) h9) ?_
  refine ac (s_aldn (M := M_Mm_spare) (pc := 10) (k := 0) h10) ?_
  refine ac (s_callV (M := M_Mm_spare) (pc := 11) (tz_Mm rfl) h11 q_Mm_many wd1849 wd1851 wd38 rfl (T := TX8) (N := 29) rfl) ?_
  refine ac (s_icmp_ge (M := M_Mm_spare) (pc := 14) h14 (by decide)) ?_
  refine ac (s_aldn (M := M_Mm_spare) (pc := 17) (k := 0) h17) ?_
  refine ac (s_ildn (M := M_Mm_spare) (pc := 18) (k := 2) h18) ?_
  refine ac (s_callV (M := M_Mm_spare) (pc := 19) (tz_Mm rfl) h19 q_Mm_canDrop wd2212 wd2214 wd97 rfl (T := TX8) (N := 29) rfl) ?_
  refine ac (s_if_eq (M := M_Mm_spare) (pc := 22) h22 (by decide)) ?_
  refine ac (s_ildn (M := M_Mm_spare) (pc := 25) (k := 1) h25) ?_
  refine ac (s_iconst (M := M_Mm_spare) (pc := 26) h26 rfl) ?_
  refine ac (s_ildn (M := M_Mm_spare) (pc := 27) (k := 2) h27) ?_
  refine ac (s_ishl (M := M_Mm_spare) (pc := 28) h28) ?_
  refine ac (s_ior (M := M_Mm_spare) (pc := 29) h29) ?_
  refine ac (s_istn (M := M_Mm_spare) (pc := 30) (k := 1) h30 (by decide)) ?_
  refine ac (s_iinc (M := M_Mm_spare) (pc := 31) h31 rfl (by decide)) ?_
  refine ac (s_goto (M := M_Mm_spare) (pc := 34) h34 (by decide)) ?_
  refine ac (s_ildn (M := M_Mm_spare) (pc := 37) (k := 1) h37) ?_
  refine ac (s_iret (M := M_Mm_spare) (pc := 38) h38 rfl) ?_
  exact ac_nil
theorem e0_Mm_canDrop : decode prog_10_method_109_code 0 = .ok (.aload_n 0, 1) ∧ decode prog_10_method_109_code 1 = .ok (.invokevirtual 61, 3) ∧ decode prog_10_method_109_code 4 = .ok (.iconst 2, 1) ∧ decode prog_10_method_109_code 5 = .ok (.if_icmp .eq 15, 3) ∧ decode prog_10_method_109_code 8 = .ok (.aload_n 0, 1) ∧ decode prog_10_method_109_code 9 = .ok (.invokevirtual 73, 3) ∧ decode prog_10_method_109_code 12 = .ok (.iconst 1, 1) ∧ decode prog_10_method_109_code 13 = .ok (.if_icmp .ne 9, 3) ∧ decode prog_10_method_109_code 16 = .ok (.iload_n 1, 1) ∧ decode prog_10_method_109_code 17 = .ok (.ifCond .ne 5, 3) ∧ decode prog_10_method_109_code 20 = .ok (.iconst 0, 1) ∧ decode prog_10_method_109_code 21 = .ok (.ireturn, 1) := by decide +kernel
theorem e1_Mm_canDrop : decode prog_10_method_109_code 22 = .ok (.aload_n 0, 1) ∧ decode prog_10_method_109_code 23 = .ok (.invokevirtual 93, 3) ∧ decode prog_10_method_109_code 26 = .ok (.aload_n 0, 1) ∧ decode prog_10_method_109_code 27 = .ok (.iload_n 1, 1) ∧ decode prog_10_method_109_code 28 = .ok (.invokevirtual 65, 3) ∧ decode prog_10_method_109_code 31 = .ok (.i2l, 1) ∧ decode prog_10_method_109_code 32 = .ok (.ldiv, 1) ∧ decode prog_10_method_109_code 33 = .ok (.lstore_n 2, 1) ∧ decode prog_10_method_109_code 34 = .ok (.iconst 0, 1) ∧ decode prog_10_method_109_code 35 = .ok (.istore 4, 2) ∧ decode prog_10_method_109_code 37 = .ok (.iload 4, 2) ∧ decode prog_10_method_109_code 39 = .ok (.bipush 8, 2) := by decide +kernel
theorem e2_Mm_canDrop : decode prog_10_method_109_code 41 = .ok (.if_icmp .ge 24, 3) ∧ decode prog_10_method_109_code 44 = .ok (.aload_n 0, 1) ∧ decode prog_10_method_109_code 45 = .ok (.iload 4, 2) ∧ decode prog_10_method_109_code 47 = .ok (.invokevirtual 104, 3) ∧ decode prog_10_method_109_code 50 = .ok (.lload_n 2, 1) ∧ decode prog_10_method_109_code 51 = .ok (.invokestatic 396, 3) ∧ decode prog_10_method_109_code 54 = .ok (.ifCond .ne 5, 3) ∧ decode prog_10_method_109_code 57 = .ok (.iconst 0, 1) ∧ decode prog_10_method_109_code 58 = .ok (.ireturn, 1) ∧ decode prog_10_method_109_code 59 = .ok (.iinc 4 1, 3) ∧ decode prog_10_method_109_code 62 = .ok (.goto (-25), 3) ∧ decode prog_10_method_109_code 65 = .ok (.iconst 1, 1) := by decide +kernel
theorem e3_Mm_canDrop : decode prog_10_method_109_code 66 = .ok (.ireturn, 1) := by decide +kernel
def T_Mm_canDrop : TT := [(0, o_ald 0 1), (1, o_callV M_Mm_many 8 1 4), (4, o_push (.int (iI (2))) 5), (5, o_icmp_eq 20 8), (8, o_ald 0 9), (9, o_callV M_Mm_bases 8 1 12), (12, o_push (.int (iI (1))) 13), (13, o_icmp_ne 22 16), (16, o_ild 1 17), (17, o_if_ne 22 20), (20, o_push (.int (iI (0))) 21), (21, o_zret), (22, o_ald 0 23), (23, o_callV M_Mm_whole 8 1 26), (26, o_ald 0 27), (27, o_ild 1 28), (28, o_callV M_Mm_mod 8 2 31), (31, o_i2l 32), (32, o_ldiv 33), (33, o_lst 2 34), (34, o_push (.int (iI (0))) 35), (35, o_ist 4 37), (37, o_ild 4 39), (39, o_push (.int (iI (8))) 41), (41, o_icmp_ge 65 44), (44, o_ald 0 45), (45, o_ild 4 47), (47, o_callV M_Mm_numberOf 8 2 50), (50, o_lld 2 51), (51, o_call M_Mm_isTold 2 54), (54, o_if_ne 59 57), (57, o_push (.int (iI (0))) 58), (58, o_zret), (59, o_iinc 4 (iI (1)) 62), (62, o_goto 37), (65, o_push (.int (iI (1))) 66), (66, o_zret)]
theorem k_Mm_canDrop : ∀ x ∈ T_Mm_canDrop, SO M_Mm_canDrop x.1 x.2 := by
  obtain ⟨h0, h1, h4, h5, h8, h9, h12, h13, h16, h17, h20, h21⟩ := e0_Mm_canDrop
  obtain ⟨h22, h23, h26, h27, h28, h31, h32, h33, h34, h35, h37, h39⟩ := e1_Mm_canDrop
  obtain ⟨h41, h44, h45, h47, h50, h51, h54, h57, h58, h59, h62, h65⟩ := e2_Mm_canDrop
  have h66 := e3_Mm_canDrop
  refine ac (s_aldn (M := M_Mm_canDrop) (pc := 0) (k := 0) h0) ?_
  refine ac (s_callV (M := M_Mm_canDrop) (pc := 1) (tz_Mm rfl) h1 q_Mm_many wd1849 wd1851 wd38 rfl (T := TX8) (N := 29) rfl) ?_
  refine ac (s_iconst (M := M_Mm_canDrop) (pc := 4) h4 rfl) ?_
  refine ac (s_icmp_eq (M := M_Mm_canDrop) (pc := 5) h5 (by decide)) ?_
  refine ac (s_aldn (M := M_Mm_canDrop) (pc := 8) (k := 0) h8) ?_
  refine ac (s_callV (M := M_Mm_canDrop) (pc := 9) (tz_Mm rfl) h9 q_Mm_bases wd1910 wd1912 wd51 rfl (T := TX8) (N := 29) rfl) ?_
  refine ac (s_iconst (M := M_Mm_canDrop) (pc := 12) h12 rfl) ?_
  refine ac (s_icmp_ne (M := M_Mm_canDrop) (pc := 13) h13 (by decide)) ?_
  refine ac (s_ildn (M := M_Mm_canDrop) (pc := 16) (k := 1) h16) ?_
  refine ac (s_if_ne (M := M_Mm_canDrop) (pc := 17) h17 (by decide)) ?_
  refine ac (s_iconst (M := M_Mm_canDrop) (pc := 20) h20 rfl) ?_
  refine ac (s_zret (M := M_Mm_canDrop) (pc := 21) h21 rfl) ?_
  refine ac (s_aldn (M := M_Mm_canDrop) (pc := 22) (k := 0) h22) ?_
  refine ac (s_callV (M := M_Mm_canDrop) (pc := 23) (tz_Mm rfl) h23 q_Mm_whole wd1858 wd1860 wd40 rfl (T := TX8) (N := 29) rfl) ?_
  refine ac (s_aldn (M := M_Mm_canDrop) (pc := 26) (k := 0) h26) ?_
  refine ac (s_ildn (M := M_Mm_canDrop) (pc := 27) (k := 1) h27) ?_
  refine ac (s_callV (M := M_Mm_canDrop) (pc := 28) (tz_Mm rfl) h28 q_Mm_mod wd1866 wd1868 wd42 rfl (T := TX8) (N := 29) rfl) ?_
  refine ac (s_i2l (M := M_Mm_canDrop) (pc := 31) h31) ?_
  refine ac (s_ldiv (M := M_Mm_canDrop) (pc := 32) h32) ?_
  refine ac (s_lstn (M := M_Mm_canDrop) (pc := 33) (k := 2) h33 (by decide)) ?_
  refine ac (s_iconst (M := M_Mm_canDrop) (pc := 34) h34 rfl) ?_
  refine ac (s_ist (M := M_Mm_canDrop) (pc := 35) h35 (by decide)) ?_
  refine ac (s_ild (M := M_Mm_canDrop) (pc := 37) h37) ?_
  refine ac (s_bipush (M := M_Mm_canDrop) (pc := 39) h39 (by decide)) ?_
  refine ac (s_icmp_ge (M := M_Mm_canDrop) (pc := 41) h41 (by decide)) ?_
  refine ac (s_aldn (M := M_Mm_canDrop) (pc := 44) (k := 0) h44) ?_
  refine ac (s_ild (M := M_Mm_canDrop) (pc := 45) h45) ?_
  refine ac (s_callV (M := M_Mm_canDrop) (pc := 47) (tz_Mm rfl) h47 q_Mm_numberOf wd1992 wd1994 wd69 rfl (T := TX8) (N := 29) rfl) ?_
  refine ac (s_lldn (M := M_Mm_canDrop) (pc := 50) (k := 2) h50) ?_
  refine ac (s_callS (M := M_Mm_canDrop) (pc := 51) (tz_Mm rfl) h51 q_Mm_isTold wd2216 wd2217) ?_
  refine ac (s_if_ne (M := M_Mm_canDrop) (pc := 54) h54 (by decide)) ?_
  refine ac (s_iconst (M := M_Mm_canDrop) (pc := 57) h57 rfl) ?_
  refine ac (s_zret (M := M_Mm_canDrop) (pc := 58) h58 rfl) ?_
  refine ac (s_iinc (M := M_Mm_canDrop) (pc := 59) h59 rfl (by decide)) ?_
  refine ac (s_goto (M := M_Mm_canDrop) (pc := 62) h62 (by decide)) ?_
  refine ac (s_iconst (M := M_Mm_canDrop) (pc := 65) h65 rfl) ?_
  refine ac (s_zret (M := M_Mm_canDrop) (pc := 66) h66 rfl) ?_
  exact ac_nil
theorem e0_Mm_isTold : decode prog_10_method_108_code 0 = .ok (.lload_n 0, 1) ∧ decode prog_10_method_108_code 1 = .ok (.lload_n 0, 1) ∧ decode prog_10_method_108_code 2 = .ok (.lconst 0, 1) ∧ decode prog_10_method_108_code 3 = .ok (.lcmp, 1) ∧ decode prog_10_method_108_code 4 = .ok (.ifCond .ge 9, 3) ∧ decode prog_10_method_108_code 7 = .ok (.lload_n 0, 1) ∧ decode prog_10_method_108_code 8 = .ok (.lload_n 2, 1) ∧ decode prog_10_method_108_code 9 = .ok (.ladd, 1) ∧ decode prog_10_method_108_code 10 = .ok (.goto 4, 3) ∧ decode prog_10_method_108_code 13 = .ok (.lload_n 0, 1) ∧ decode prog_10_method_108_code 14 = .ok (.lload_n 2, 1) ∧ decode prog_10_method_108_code 15 = .ok (.invokestatic 97, 3) := by decide +kernel
theorem e1_Mm_isTold : decode prog_10_method_108_code 18 = .ok (.lcmp, 1) ∧ decode prog_10_method_108_code 19 = .ok (.ifCond .ne 19, 3) ∧ decode prog_10_method_108_code 22 = .ok (.lload_n 0, 1) ∧ decode prog_10_method_108_code 23 = .ok (.lload_n 2, 1) ∧ decode prog_10_method_108_code 24 = .ok (.lneg, 1) ∧ decode prog_10_method_108_code 25 = .ok (.lload_n 2, 1) ∧ decode prog_10_method_108_code 26 = .ok (.lconst 1, 1) ∧ decode prog_10_method_108_code 27 = .ok (.lsub, 1) ∧ decode prog_10_method_108_code 28 = .ok (.invokestatic 57, 3) ∧ decode prog_10_method_108_code 31 = .ok (.ifCond .eq 7, 3) ∧ decode prog_10_method_108_code 34 = .ok (.iconst 1, 1) ∧ decode prog_10_method_108_code 35 = .ok (.goto 4, 3) := by decide +kernel
theorem e2_Mm_isTold : decode prog_10_method_108_code 38 = .ok (.iconst 0, 1) ∧ decode prog_10_method_108_code 39 = .ok (.ireturn, 1) := by decide +kernel
def T_Mm_isTold : TT := [(0, o_lld 0 1), (1, o_lld 0 2), (2, o_push (.long (lI 0)) 3), (3, o_lc_ge 13 7), (7, o_lld 0 8), (8, o_lld 2 9), (9, o_ladd 10), (10, o_goto 14), (13, o_lld 0 14), (14, o_lld 2 15), (15, o_call M_Mm_signed 2 18), (18, o_lc_ne 38 22), (22, o_lld 0 23), (23, o_lld 2 24), (24, o_lneg 25), (25, o_lld 2 26), (26, o_push (.long (lI 1)) 27), (27, o_lsub 28), (28, o_call M_Mm_isIn 3 31), (31, o_if_eq 38 34), (34, o_push (.int (iI (1))) 35), (35, o_goto 39), (38, o_push (.int (iI (0))) 39), (39, o_zret)]
theorem k_Mm_isTold : ∀ x ∈ T_Mm_isTold, SO M_Mm_isTold x.1 x.2 := by
  obtain ⟨h0, h1, h2, h3, h4, h7, h8, h9, h10, h13, h14, h15⟩ := e0_Mm_isTold
  obtain ⟨h18, h19, h22, h23, h24, h25, h26, h27, h28, h31, h34, h35⟩ := e1_Mm_isTold
  obtain ⟨h38, h39⟩ := e2_Mm_isTold
  refine ac (s_lldn (M := M_Mm_isTold) (pc := 0) (k := 0) h0) ?_
  refine ac (s_lldn (M := M_Mm_isTold) (pc := 1) (k := 0) h1) ?_
  refine ac (s_lconst (M := M_Mm_isTold) (pc := 2) h2 (by decide)) ?_
  refine ac (s_lc_ge (M := M_Mm_isTold) (pc := 3) h3 h4 (by decide)) ?_
  refine ac (s_lldn (M := M_Mm_isTold) (pc := 7) (k := 0) h7) ?_
  refine ac (s_lldn (M := M_Mm_isTold) (pc := 8) (k := 2) h8) ?_
  refine ac (s_ladd (M := M_Mm_isTold) (pc := 9) h9) ?_
  refine ac (s_goto (M := M_Mm_isTold) (pc := 10) h10 (by decide)) ?_
  refine ac (s_lldn (M := M_Mm_isTold) (pc := 13) (k := 0) h13) ?_
  refine ac (s_lldn (M := M_Mm_isTold) (pc := 14) (k := 2) h14) ?_
  refine ac (s_callS (M := M_Mm_isTold) (pc := 15) (tz_Mm rfl) h15 q_Mm_signed wd2000 wd2001) ?_
  refine ac (s_lc_ne (M := M_Mm_isTold) (pc := 18) h18 h19 (by decide)) ?_
  refine ac (s_lldn (M := M_Mm_isTold) (pc := 22) (k := 0) h22) ?_
  refine ac (s_lldn (M := M_Mm_isTold) (pc := 23) (k := 2) h23) ?_
  refine ac (s_lneg (M := M_Mm_isTold) (pc := 24) h24) ?_
  refine ac (s_lldn (M := M_Mm_isTold) (pc := 25) (k := 2) h25) ?_
  refine ac (s_lconst (M := M_Mm_isTold) (pc := 26) h26 (by decide)) ?_
  refine ac (s_lsub (M := M_Mm_isTold) (pc := 27) h27) ?_
  refine ac (s_callS (M := M_Mm_isTold) (pc := 28) (tz_Mm rfl) h28 q_Mm_isIn wd1789 wd1790) ?_
  refine ac (s_if_eq (M := M_Mm_isTold) (pc := 31) h31 (by decide)) ?_
  refine ac (s_iconst (M := M_Mm_isTold) (pc := 34) h34 rfl) ?_
  refine ac (s_goto (M := M_Mm_isTold) (pc := 35) h35 (by decide)) ?_
  refine ac (s_iconst (M := M_Mm_isTold) (pc := 38) h38 rfl) ?_
  refine ac (s_zret (M := M_Mm_isTold) (pc := 39) h39 rfl) ?_
  exact ac_nil
theorem e0_Mm_greatest : decode prog_10_method_112_code 0 = .ok (.aload_n 0, 1) ∧ decode prog_10_method_112_code 1 = .ok (.iconst 0, 1) ∧ decode prog_10_method_112_code 2 = .ok (.putfield 1, 3) ∧ decode prog_10_method_112_code 5 = .ok (.iconst 0, 1) ∧ decode prog_10_method_112_code 6 = .ok (.istore_n 1, 1) ∧ decode prog_10_method_112_code 7 = .ok (.iconst 1, 1) ∧ decode prog_10_method_112_code 8 = .ok (.istore_n 2, 1) ∧ decode prog_10_method_112_code 9 = .ok (.iload_n 2, 1) ∧ decode prog_10_method_112_code 10 = .ok (.bipush 8, 2) ∧ decode prog_10_method_112_code 12 = .ok (.if_icmp .ge 25, 3) ∧ decode prog_10_method_112_code 15 = .ok (.aload_n 0, 1) ∧ decode prog_10_method_112_code 16 = .ok (.iload_n 2, 1) := by decide +kernel
theorem e1_Mm_greatest : decode prog_10_method_112_code 17 = .ok (.invokevirtual 403, 3) ∧ decode prog_10_method_112_code 20 = .ok (.aload_n 0, 1) ∧ decode prog_10_method_112_code 21 = .ok (.iload_n 1, 1) ∧ decode prog_10_method_112_code 22 = .ok (.invokevirtual 403, 3) ∧ decode prog_10_method_112_code 25 = .ok (.lcmp, 1) ∧ decode prog_10_method_112_code 26 = .ok (.ifCond .le 5, 3) ∧ decode prog_10_method_112_code 29 = .ok (.iload_n 2, 1) ∧ decode prog_10_method_112_code 30 = .ok (.istore_n 1, 1) ∧ decode prog_10_method_112_code 31 = .ok (.iinc 2 1, 3) ∧ decode prog_10_method_112_code 34 = .ok (.goto (-25), 3) ∧ decode prog_10_method_112_code 37 = .ok (.iload_n 1, 1) ∧ decode prog_10_method_112_code 38 = .ok (.ireturn, 1) := by decide +kernel
def T_Mm_greatest : TT := [(0, o_ald 0 1), (1, o_push (.int (iI (0))) 2), (2, o_puti 8 0 5), (5, o_push (.int (iI (0))) 6), (6, o_ist 1 7), (7, o_push (.int (iI (1))) 8), (8, o_ist 2 9), (9, o_ild 2 10), (10, o_push (.int (iI (8))) 12), (12, o_icmp_ge 37 15), (15, o_ald 0 16), (16, o_ild 2 17), (17, o_callV M_Mm_sizeOf 8 2 20), (20, o_ald 0 21), (21, o_ild 1 22), (22, o_callV M_Mm_sizeOf 8 2 25), (25, o_lc_le 31 29), (29, o_ild 2 30), (30, o_ist 1 31), (31, o_iinc 2 (iI (1)) 34), (34, o_goto 9), (37, o_ild 1 38), (38, o_iret)]
theorem k_Mm_greatest : ∀ x ∈ T_Mm_greatest, SO M_Mm_greatest x.1 x.2 := by
  obtain ⟨h0, h1, h2, h5, h6, h7, h8, h9, h10, h12, h15, h16⟩ := e0_Mm_greatest
  obtain ⟨h17, h20, h21, h22, h25, h26, h29, h30, h31, h34, h37, h38⟩ := e1_Mm_greatest
  refine ac (s_aldn (M := M_Mm_greatest) (pc := 0) (k := 0) h0) ?_
  refine ac (s_iconst (M := M_Mm_greatest) (pc := 1) h1 rfl) ?_
  refine ac (s_puti (M := M_Mm_greatest) (pc := 2) (T := TX8) (N := 29) (ty0 := tyX8) h2 ⟨rfl, in_X8, by decide, wd1689, tyX8_ok, nmX8, (Or.inl rfl)⟩ rfl) ?_
  refine ac (s_iconst (M := M_Mm_greatest) (pc := 5) h5 rfl) ?_
  refine ac (s_istn (M := M_Mm_greatest) (pc := 6) (k := 1) h6 (by decide)) ?_
  refine ac (s_iconst (M := M_Mm_greatest) (pc := 7) h7 rfl) ?_
  refine ac (s_istn (M := M_Mm_greatest) (pc := 8) (k := 2) h8 (by decide)) ?_
  refine ac (s_ildn (M := M_Mm_greatest) (pc := 9) (k := 2) h9) ?_
  refine ac (s_bipush (M := M_Mm_greatest) (pc := 10) h10 (by decide)) ?_
  refine ac (s_icmp_ge (M := M_Mm_greatest) (pc := 12) h12 (by decide)) ?_
  refine ac (s_aldn (M := M_Mm_greatest) (pc := 15) (k := 0) h15) ?_
  refine ac (s_ildn (M := M_Mm_greatest) (pc := 16) (k := 2) h16) ?_
  refine ac (s_callV (M := M_Mm_greatest) (pc := 17) (tz_Mm rfl) h17 q_Mm_sizeOf wd2223 wd2225 wd98 rfl (T := TX8) (N := 29) rfl) ?_
  refine ac (s_aldn (M := M_Mm_greatest) (pc := 20) (k := 0) h20) ?_
  refine ac (s_ildn (M := M_Mm_greatest) (pc := 21) (k := 1) h21) ?_
  refine ac (s_callV (M := M_Mm_greatest) (pc := 22) (tz_Mm rfl) h22 q_Mm_sizeOf wd2223 wd2225 wd98 rfl (T := TX8) (N := 29) rfl) ?_
  refine ac (s_lc_le (M := M_Mm_greatest) (pc := 25) h25 h26 (by decide)) ?_
  refine ac (s_ildn (M := M_Mm_greatest) (pc := 29) (k := 2) h29) ?_
  refine ac (s_istn (M := M_Mm_greatest) (pc := 30) (k := 1) h30 (by decide)) ?_
  refine ac (s_iinc (M := M_Mm_greatest) (pc := 31) h31 rfl (by decide)) ?_
  refine ac (s_goto (M := M_Mm_greatest) (pc := 34) h34 (by decide)) ?_
  refine ac (s_ildn (M := M_Mm_greatest) (pc := 37) (k := 1) h37) ?_
  refine ac (s_iret (M := M_Mm_greatest) (pc := 38) h38 rfl) ?_
  exact ac_nil
theorem e0_Mm_sizeOf : decode prog_10_method_111_code 0 = .ok (.aload_n 0, 1) ∧ decode prog_10_method_111_code 1 = .ok (.iload_n 1, 1) ∧ decode prog_10_method_111_code 2 = .ok (.invokevirtual 104, 3) ∧ decode prog_10_method_111_code 5 = .ok (.lstore_n 2, 1) ∧ decode prog_10_method_111_code 6 = .ok (.lload_n 2, 1) ∧ decode prog_10_method_111_code 7 = .ok (.lconst 0, 1) ∧ decode prog_10_method_111_code 8 = .ok (.lcmp, 1) ∧ decode prog_10_method_111_code 9 = .ok (.ifCond .ge 8, 3) ∧ decode prog_10_method_111_code 12 = .ok (.lload_n 2, 1) ∧ decode prog_10_method_111_code 13 = .ok (.lneg, 1) ∧ decode prog_10_method_111_code 14 = .ok (.goto 4, 3) ∧ decode prog_10_method_111_code 17 = .ok (.lload_n 2, 1) := by decide +kernel
theorem e1_Mm_sizeOf : decode prog_10_method_111_code 18 = .ok (.lreturn, 1) := by decide +kernel
def T_Mm_sizeOf : TT := [(0, o_ald 0 1), (1, o_ild 1 2), (2, o_callV M_Mm_numberOf 8 2 5), (5, o_lst 2 6), (6, o_lld 2 7), (7, o_push (.long (lI 0)) 8), (8, o_lc_ge 17 12), (12, o_lld 2 13), (13, o_lneg 14), (14, o_goto 18), (17, o_lld 2 18), (18, o_lret)]
theorem k_Mm_sizeOf : ∀ x ∈ T_Mm_sizeOf, SO M_Mm_sizeOf x.1 x.2 := by
  obtain ⟨h0, h1, h2, h5, h6, h7, h8, h9, h12, h13, h14, h17⟩ := e0_Mm_sizeOf
  have h18 := e1_Mm_sizeOf
  refine ac (s_aldn (M := M_Mm_sizeOf) (pc := 0) (k := 0) h0) ?_
  refine ac (s_ildn (M := M_Mm_sizeOf) (pc := 1) (k := 1) h1) ?_
  refine ac (s_callV (M := M_Mm_sizeOf) (pc := 2) (tz_Mm rfl) h2 q_Mm_numberOf wd1992 wd1994 wd69 rfl (T := TX8) (N := 29) rfl) ?_
  refine ac (s_lstn (M := M_Mm_sizeOf) (pc := 5) (k := 2) h5 (by decide)) ?_
  refine ac (s_lldn (M := M_Mm_sizeOf) (pc := 6) (k := 2) h6) ?_
  refine ac (s_lconst (M := M_Mm_sizeOf) (pc := 7) h7 (by decide)) ?_
  refine ac (s_lc_ge (M := M_Mm_sizeOf) (pc := 8) h8 h9 (by decide)) ?_
  refine ac (s_lldn (M := M_Mm_sizeOf) (pc := 12) (k := 2) h12) ?_
  refine ac (s_lneg (M := M_Mm_sizeOf) (pc := 13) h13) ?_
  refine ac (s_goto (M := M_Mm_sizeOf) (pc := 14) h14 (by decide)) ?_
  refine ac (s_lldn (M := M_Mm_sizeOf) (pc := 17) (k := 2) h17) ?_
  refine ac (s_lret (M := M_Mm_sizeOf) (pc := 18) h18 rfl) ?_
  exact ac_nil
theorem e0_Mm_mean : decode prog_10_method_113_code 0 = .ok (.aload_n 0, 1) ∧ decode prog_10_method_113_code 1 = .ok (.iconst 0, 1) ∧ decode prog_10_method_113_code 2 = .ok (.putfield 1, 3) ∧ decode prog_10_method_113_code 5 = .ok (.lconst 0, 1) ∧ decode prog_10_method_113_code 6 = .ok (.lstore_n 1, 1) ∧ decode prog_10_method_113_code 7 = .ok (.iconst 0, 1) ∧ decode prog_10_method_113_code 8 = .ok (.istore_n 3, 1) ∧ decode prog_10_method_113_code 9 = .ok (.iload_n 3, 1) ∧ decode prog_10_method_113_code 10 = .ok (.bipush 8, 2) ∧ decode prog_10_method_113_code 12 = .ok (.if_icmp .ge 17, 3) ∧ decode prog_10_method_113_code 15 = .ok (.lload_n 1, 1) ∧ decode prog_10_method_113_code 16 = .ok (.aload_n 0, 1) := by decide +kernel
theorem e1_Mm_mean : decode prog_10_method_113_code 17 = .ok (.iload_n 3, 1) ∧ decode prog_10_method_113_code 18 = .ok (.invokevirtual 104, 3) ∧ decode prog_10_method_113_code 21 = .ok (.ladd, 1) ∧ decode prog_10_method_113_code 22 = .ok (.lstore_n 1, 1) ∧ decode prog_10_method_113_code 23 = .ok (.iinc 3 1, 3) ∧ decode prog_10_method_113_code 26 = .ok (.goto (-17), 3) ∧ decode prog_10_method_113_code 29 = .ok (.lload_n 1, 1) ∧ decode prog_10_method_113_code 30 = .ok (.l2d, 1) ∧ decode prog_10_method_113_code 31 = .ok (.ldc2_w 406, 3) ∧ decode prog_10_method_113_code 34 = .ok (.ddiv, 1) ∧ decode prog_10_method_113_code 35 = .ok (.dreturn, 1) := by decide +kernel
def T_Mm_mean : TT := [(0, o_ald 0 1), (1, o_push (.int (iI (0))) 2), (2, o_puti 8 0 5), (5, o_push (.long (lI 0)) 6), (6, o_lst 1 7), (7, o_push (.int (iI (0))) 8), (8, o_ist 3 9), (9, o_ild 3 10), (10, o_push (.int (iI (8))) 12), (12, o_icmp_ge 29 15), (15, o_lld 1 16), (16, o_ald 0 17), (17, o_ild 3 18), (18, o_callV M_Mm_numberOf 8 2 21), (21, o_ladd 22), (22, o_lst 1 23), (23, o_iinc 3 (iI (1)) 26), (26, o_goto 9), (29, o_lld 1 30), (30, o_l2d 31), (31, o_push (.double 4620693217682128896) 34), (34, o_ddiv 35), (35, o_dret)]
theorem k_Mm_mean : ∀ x ∈ T_Mm_mean, SO M_Mm_mean x.1 x.2 := by
  obtain ⟨h0, h1, h2, h5, h6, h7, h8, h9, h10, h12, h15, h16⟩ := e0_Mm_mean
  obtain ⟨h17, h18, h21, h22, h23, h26, h29, h30, h31, h34, h35⟩ := e1_Mm_mean
  refine ac (s_aldn (M := M_Mm_mean) (pc := 0) (k := 0) h0) ?_
  refine ac (s_iconst (M := M_Mm_mean) (pc := 1) h1 rfl) ?_
  refine ac (s_puti (M := M_Mm_mean) (pc := 2) (T := TX8) (N := 29) (ty0 := tyX8) h2 ⟨rfl, in_X8, by decide, wd1689, tyX8_ok, nmX8, (Or.inl rfl)⟩ rfl) ?_
  refine ac (s_lconst (M := M_Mm_mean) (pc := 5) h5 (by decide)) ?_
  refine ac (s_lstn (M := M_Mm_mean) (pc := 6) (k := 1) h6 (by decide)) ?_
  refine ac (s_iconst (M := M_Mm_mean) (pc := 7) h7 rfl) ?_
  refine ac (s_istn (M := M_Mm_mean) (pc := 8) (k := 3) h8 (by decide)) ?_
  refine ac (s_ildn (M := M_Mm_mean) (pc := 9) (k := 3) h9) ?_
  refine ac (s_bipush (M := M_Mm_mean) (pc := 10) h10 (by decide)) ?_
  refine ac (s_icmp_ge (M := M_Mm_mean) (pc := 12) h12 (by decide)) ?_
  refine ac (s_lldn (M := M_Mm_mean) (pc := 15) (k := 1) h15) ?_
  refine ac (s_aldn (M := M_Mm_mean) (pc := 16) (k := 0) h16) ?_
  refine ac (s_ildn (M := M_Mm_mean) (pc := 17) (k := 3) h17) ?_
  refine ac (s_callV (M := M_Mm_mean) (pc := 18) (tz_Mm rfl) h18 q_Mm_numberOf wd1992 wd1994 wd69 rfl (T := TX8) (N := 29) rfl) ?_
  refine ac (s_ladd (M := M_Mm_mean) (pc := 21) h21) ?_
  refine ac (s_lstn (M := M_Mm_mean) (pc := 22) (k := 1) h22 (by decide)) ?_
  refine ac (s_iinc (M := M_Mm_mean) (pc := 23) h23 rfl (by decide)) ?_
  refine ac (s_goto (M := M_Mm_mean) (pc := 26) h26 (by decide)) ?_
  refine ac (s_lldn (M := M_Mm_mean) (pc := 29) (k := 1) h29) ?_
  refine ac (s_l2d (M := M_Mm_mean) (pc := 30) h30) ?_
  refine ac (s_ldc2d (M := M_Mm_mean) (pc := 31) h31 wd2231) ?_
  refine ac (s_ddiv (M := M_Mm_mean) (pc := 34) h34) ?_
  refine ac (s_dret (M := M_Mm_mean) (pc := 35) h35 rfl) ?_
  exact ac_nil
theorem e0_Mm_zeroShare : decode prog_10_method_114_code 0 = .ok (.aload_n 0, 1) ∧ decode prog_10_method_114_code 1 = .ok (.iconst 0, 1) ∧ decode prog_10_method_114_code 2 = .ok (.putfield 1, 3) ∧ decode prog_10_method_114_code 5 = .ok (.iconst 0, 1) ∧ decode prog_10_method_114_code 6 = .ok (.istore_n 1, 1) ∧ decode prog_10_method_114_code 7 = .ok (.iconst 0, 1) ∧ decode prog_10_method_114_code 8 = .ok (.istore_n 2, 1) ∧ decode prog_10_method_114_code 9 = .ok (.iload_n 2, 1) ∧ decode prog_10_method_114_code 10 = .ok (.bipush 8, 2) ∧ decode prog_10_method_114_code 12 = .ok (.if_icmp .ge 38, 3) ∧ decode prog_10_method_114_code 15 = .ok (.iconst 0, 1) ∧ decode prog_10_method_114_code 16 = .ok (.istore_n 3, 1) := by decide +kernel
theorem e1_Mm_zeroShare : decode prog_10_method_114_code 17 = .ok (.iload_n 3, 1) ∧ decode prog_10_method_114_code 18 = .ok (.aload_n 0, 1) ∧ decode prog_10_method_114_code 19 = .ok (.invokevirtual 61, 3) ∧ decode prog_10_method_114_code 22 = .ok (.if_icmp .ge 22, 3) ∧ decode prog_10_method_114_code 25 = .ok (.aload_n 0, 1) ∧ decode prog_10_method_114_code 26 = .ok (.iload_n 2, 1) ∧ decode prog_10_method_114_code 27 = .ok (.iload_n 3, 1) ∧ decode prog_10_method_114_code 28 = .ok (.invokevirtual 86, 3) ∧ decode prog_10_method_114_code 31 = .ok (.ifCond .ne 7, 3) ∧ decode prog_10_method_114_code 34 = .ok (.iload_n 1, 1) ∧ decode prog_10_method_114_code 35 = .ok (.iconst 1, 1) ∧ decode prog_10_method_114_code 36 = .ok (.iadd, 1) := by decide +kernel
theorem e2_Mm_zeroShare : decode prog_10_method_114_code 37 = .ok (.istore_n 1, 1) ∧ decode prog_10_method_114_code 38 = .ok (.iinc 3 1, 3) ∧ decode prog_10_method_114_code 41 = .ok (.goto (-24), 3) ∧ decode prog_10_method_114_code 44 = .ok (.iinc 2 1, 3) ∧ decode prog_10_method_114_code 47 = .ok (.goto (-38), 3) ∧ decode prog_10_method_114_code 50 = .ok (.iload_n 1, 1) ∧ decode prog_10_method_114_code 51 = .ok (.i2f, 1) ∧ decode prog_10_method_114_code 52 = .ok (.bipush 8, 2) ∧ decode prog_10_method_114_code 54 = .ok (.aload_n 0, 1) ∧ decode prog_10_method_114_code 55 = .ok (.invokevirtual 61, 3) ∧ decode prog_10_method_114_code 58 = .ok (.imul, 1) ∧ decode prog_10_method_114_code 59 = .ok (.i2f, 1) := by decide +kernel
theorem e3_Mm_zeroShare : decode prog_10_method_114_code 60 = .ok (.fdiv, 1) ∧ decode prog_10_method_114_code 61 = .ok (.freturn, 1) := by decide +kernel
def T_Mm_zeroShare : TT := [(0, o_ald 0 1), (1, o_push (.int (iI (0))) 2), (2, o_puti 8 0 5), (5, o_push (.int (iI (0))) 6), (6, o_ist 1 7), (7, o_push (.int (iI (0))) 8), (8, o_ist 2 9), (9, o_ild 2 10), (10, o_push (.int (iI (8))) 12), (12, o_icmp_ge 50 15), (15, o_push (.int (iI (0))) 16), (16, o_ist 3 17), (17, o_ild 3 18), (18, o_ald 0 19), (19, o_callV M_Mm_many 8 1 22), (22, o_icmp_ge 44 25), (25, o_ald 0 26), (26, o_ild 2 27), (27, o_ild 3 28), (28, o_callV M_Mm_restOf 8 3 31), (31, o_if_ne 38 34), (34, o_ild 1 35), (35, o_push (.int (iI (1))) 36), (36, o_iadd 37), (37, o_ist 1 38), (38, o_iinc 3 (iI (1)) 41), (41, o_goto 17), (44, o_iinc 2 (iI (1)) 47), (47, o_goto 9), (50, o_ild 1 51), (51, o_i2f 52), (52, o_push (.int (iI (8))) 54), (54, o_ald 0 55), (55, o_callV M_Mm_many 8 1 58), (58, o_imul 59), (59, o_i2f 60), (60, o_fdiv 61), (61, o_fret)]
theorem k_Mm_zeroShare : ∀ x ∈ T_Mm_zeroShare, SO M_Mm_zeroShare x.1 x.2 := by
  obtain ⟨h0, h1, h2, h5, h6, h7, h8, h9, h10, h12, h15, h16⟩ := e0_Mm_zeroShare
  obtain ⟨h17, h18, h19, h22, h25, h26, h27, h28, h31, h34, h35, h36⟩ := e1_Mm_zeroShare
  obtain ⟨h37, h38, h41, h44, h47, h50, h51, h52, h54, h55, h58, h59⟩ := e2_Mm_zeroShare
  obtain ⟨h60, h61⟩ := e3_Mm_zeroShare
  refine ac (s_aldn (M := M_Mm_zeroShare) (pc := 0) (k := 0) h0) ?_
  refine ac (s_iconst (M := M_Mm_zeroShare) (pc := 1) h1 rfl) ?_
  refine ac (s_puti (M := M_Mm_zeroShare) (pc := 2) (T := TX8) (N := 29) (ty0 := tyX8) h2 ⟨rfl, in_X8, by decide, wd1689, tyX8_ok, nmX8, (Or.inl rfl)⟩ rfl) ?_
  refine ac (s_iconst (M := M_Mm_zeroShare) (pc := 5) h5 rfl) ?_
  refine ac (s_istn (M := M_Mm_zeroShare) (pc := 6) (k := 1) h6 (by decide)) ?_
  refine ac (s_iconst (M := M_Mm_zeroShare) (pc := 7) h7 rfl) ?_
  refine ac (s_istn (M := M_Mm_zeroShare) (pc := 8) (k := 2) h8 (by decide)) ?_
  refine ac (s_ildn (M := M_Mm_zeroShare) (pc := 9) (k := 2) h9) ?_
  refine ac (s_bipush (M := M_Mm_zeroShare) (pc := 10) h10 (by decide)) ?_
  refine ac (s_icmp_ge (M := M_Mm_zeroShare) (pc := 12) h12 (by decide)) ?_
  refine ac (s_iconst (M := M_Mm_zeroShare) (pc := 15) h15 rfl) ?_
  refine ac (s_istn (M := M_Mm_zeroShare) (pc := 16) (k := 3) h16 (by decide)) ?_
  refine ac (s_ildn (M := M_Mm_zeroShare) (pc := 17) (k := 3) h17) ?_
  refine ac (s_aldn (M := M_Mm_zeroShare) (pc := 18) (k := 0) h18) ?_
  refine ac (s_callV (M := M_Mm_zeroShare) (pc := 19) (tz_Mm rfl) h19 q_Mm_many wd1849 wd1851 wd38 rfl (T := TX8) (N := 29) rfl) ?_
  refine ac (s_icmp_ge (M := M_Mm_zeroShare) (pc := 22) h22 (by decide)) ?_
  refine ac (s_aldn (M := M_Mm_zeroShare) (pc := 25) (k := 0) h25) ?_
  refine ac (s_ildn (M := M_Mm_zeroShare) (pc := 26) (k := 2) h26) ?_
  refine ac (s_ildn (M := M_Mm_zeroShare) (pc := 27) (k := 3) h27) ?_
  refine ac (s_callV (M := M_Mm_zeroShare) (pc := 28) (tz_Mm rfl) h28 q_Mm_restOf wd1984 wd1986 wd67 rfl (T := TX8) (N := 29) rfl) ?_
  refine ac (s_if_ne (M := M_Mm_zeroShare) (pc := 31) h31 (by decide)) ?_
  refine ac (s_ildn (M := M_Mm_zeroShare) (pc := 34) (k := 1) h34) ?_
  refine ac (s_iconst (M := M_Mm_zeroShare) (pc := 35) h35 rfl) ?_
  refine ac (s_iadd (M := M_Mm_zeroShare) (pc := 36) h36) ?_
  refine ac (s_istn (M := M_Mm_zeroShare) (pc := 37) (k := 1) h37 (by decide)) ?_
  refine ac (s_iinc (M := M_Mm_zeroShare) (pc := 38) h38 rfl (by decide)) ?_
  refine ac (s_goto (M := M_Mm_zeroShare) (pc := 41) h41 (by decide)) ?_
  refine ac (s_iinc (M := M_Mm_zeroShare) (pc := 44) h44 rfl (by decide)) ?_
  refine ac (s_goto (M := M_Mm_zeroShare) (pc := 47) h47 (by decide)) ?_
  refine ac (s_ildn (M := M_Mm_zeroShare) (pc := 50) (k := 1) h50) ?_
  refine ac (s_i2f (M := M_Mm_zeroShare) (pc := 51) h51) ?_
  refine ac (s_bipush (M := M_Mm_zeroShare) (pc := 52) h52 (by decide)) ?_
  refine ac (s_aldn (M := M_Mm_zeroShare) (pc := 54) (k := 0) h54) ?_
  refine ac (s_callV (M := M_Mm_zeroShare) (pc := 55) (tz_Mm rfl) h55 q_Mm_many wd1849 wd1851 wd38 rfl (T := TX8) (N := 29) rfl) ?_
  refine ac (s_imul (M := M_Mm_zeroShare) (pc := 58) h58) ?_
  refine ac (s_i2f (M := M_Mm_zeroShare) (pc := 59) h59) ?_
  refine ac (s_fdiv (M := M_Mm_zeroShare) (pc := 60) h60) ?_
  refine ac (s_fret (M := M_Mm_zeroShare) (pc := 61) h61 rfl) ?_
  exact ac_nil
theorem e0_Mm_set : decode prog_10_method_119_code 0 = .ok (.aload_n 0, 1) ∧ decode prog_10_method_119_code 1 = .ok (.aload_n 0, 1) ∧ decode prog_10_method_119_code 2 = .ok (.iload_n 1, 1) ∧ decode prog_10_method_119_code 3 = .ok (.invokevirtual 351, 3) ∧ decode prog_10_method_119_code 6 = .ok (.ifCond .ne 7, 3) ∧ decode prog_10_method_119_code 9 = .ok (.iconst 1, 1) ∧ decode prog_10_method_119_code 10 = .ok (.goto 22, 3) ∧ decode prog_10_method_119_code 13 = .ok (.iload_n 2, 1) ∧ decode prog_10_method_119_code 14 = .ok (.i2l, 1) ∧ decode prog_10_method_119_code 15 = .ok (.ldc2_w 414, 3) ∧ decode prog_10_method_119_code 18 = .ok (.ldc2_w 231, 3) ∧ decode prog_10_method_119_code 21 = .ok (.invokestatic 57, 3) := by decide +kernel
theorem e1_Mm_set : decode prog_10_method_119_code 24 = .ok (.ifCond .eq 7, 3) ∧ decode prog_10_method_119_code 27 = .ok (.iconst 0, 1) ∧ decode prog_10_method_119_code 28 = .ok (.goto 4, 3) ∧ decode prog_10_method_119_code 31 = .ok (.iconst 2, 1) ∧ decode prog_10_method_119_code 32 = .ok (.putfield 1, 3) ∧ decode prog_10_method_119_code 35 = .ok (.aload_n 0, 1) ∧ decode prog_10_method_119_code 36 = .ok (.getfield 1, 3) ∧ decode prog_10_method_119_code 39 = .ok (.ifCond .eq 5, 3) ∧ decode prog_10_method_119_code 42 = .ok (.iconst 0, 1) ∧ decode prog_10_method_119_code 43 = .ok (.ireturn, 1) ∧ decode prog_10_method_119_code 44 = .ok (.aload_n 0, 1) ∧ decode prog_10_method_119_code 45 = .ok (.invokevirtual 416, 3) := by decide +kernel
theorem e2_Mm_set : decode prog_10_method_119_code 48 = .ok (.aload_n 0, 1) ∧ decode prog_10_method_119_code 49 = .ok (.aload_n 0, 1) ∧ decode prog_10_method_119_code 50 = .ok (.iload_n 1, 1) ∧ decode prog_10_method_119_code 51 = .ok (.iload_n 2, 1) ∧ decode prog_10_method_119_code 52 = .ok (.invokevirtual 419, 3) ∧ decode prog_10_method_119_code 55 = .ok (.invokevirtual 422, 3) ∧ decode prog_10_method_119_code 58 = .ok (.ireturn, 1) := by decide +kernel
def T_Mm_set : TT := [(0, o_ald 0 1), (1, o_ald 0 2), (2, o_ild 1 3), (3, o_callV M_Mm_isRegister 8 2 6), (6, o_if_ne 13 9), (9, o_push (.int (iI (1))) 10), (10, o_goto 32), (13, o_ild 2 14), (14, o_i2l 15), (15, o_push (.long (lI (-1000000000))) 18), (18, o_push (.long (lI (1000000000))) 21), (21, o_call M_Mm_isIn 3 24), (24, o_if_eq 31 27), (27, o_push (.int (iI (0))) 28), (28, o_goto 32), (31, o_push (.int (iI (2))) 32), (32, o_puti 8 0 35), (35, o_ald 0 36), (36, o_get 8 0 39), (39, o_if_eq 44 42), (42, o_push (.int (iI (0))) 43), (43, o_iret), (44, o_ald 0 45), (45, o_callV M_Mm_tries 8 1 48), (48, o_ald 0 49), (49, o_ald 0 50), (50, o_ild 1 51), (51, o_ild 2 52), (52, o_callV M_Mm_setsNow 8 3 55), (55, o_callV M_Mm_decided 8 2 58), (58, o_iret)]
theorem k_Mm_set : ∀ x ∈ T_Mm_set, SO M_Mm_set x.1 x.2 := by
  obtain ⟨h0, h1, h2, h3, h6, h9, h10, h13, h14, h15, h18, h21⟩ := e0_Mm_set
  obtain ⟨h24, h27, h28, h31, h32, h35, h36, h39, h42, h43, h44, h45⟩ := e1_Mm_set
  obtain ⟨h48, h49, h50, h51, h52, h55, h58⟩ := e2_Mm_set
  refine ac (s_aldn (M := M_Mm_set) (pc := 0) (k := 0) h0) ?_
  refine ac (s_aldn (M := M_Mm_set) (pc := 1) (k := 0) h1) ?_
  refine ac (s_ildn (M := M_Mm_set) (pc := 2) (k := 1) h2) ?_
  refine ac (s_callV (M := M_Mm_set) (pc := 3) (tz_Mm rfl) h3 q_Mm_isRegister wd2107 wd2109 wd88 rfl (T := TX8) (N := 29) rfl) ?_
  refine ac (s_if_ne (M := M_Mm_set) (pc := 6) h6 (by decide)) ?_
  refine ac (s_iconst (M := M_Mm_set) (pc := 9) h9 rfl) ?_
  refine ac (s_goto (M := M_Mm_set) (pc := 10) h10 (by decide)) ?_
  refine ac (s_ildn (M := M_Mm_set) (pc := 13) (k := 2) h13) ?_
  refine ac (s_i2l (M := M_Mm_set) (pc := 14) h14) ?_
  refine ac (s_ldc2 (M := M_Mm_set) (pc := 15) h15 wd2240) ?_
  refine ac (s_ldc2 (M := M_Mm_set) (pc := 18) h18 wd1870) ?_
  refine ac (s_callS (M := M_Mm_set) (pc := 21) (tz_Mm rfl) h21 q_Mm_isIn wd1789 wd1790) ?_
  refine ac (s_if_eq (M := M_Mm_set) (pc := 24) h24 (by decide)) ?_
  refine ac (s_iconst (M := M_Mm_set) (pc := 27) h27 rfl) ?_
  refine ac (s_goto (M := M_Mm_set) (pc := 28) h28 (by decide)) ?_
  refine ac (s_iconst (M := M_Mm_set) (pc := 31) h31 rfl) ?_
  refine ac (s_puti (M := M_Mm_set) (pc := 32) (T := TX8) (N := 29) (ty0 := tyX8) h32 ⟨rfl, in_X8, by decide, wd1689, tyX8_ok, nmX8, (Or.inl rfl)⟩ rfl) ?_
  refine ac (s_aldn (M := M_Mm_set) (pc := 35) (k := 0) h35) ?_
  refine ac (s_get (M := M_Mm_set) (pc := 36) (T := TX8) (N := 29) h36 rfl in_X8 (by decide) wd1689) ?_
  refine ac (s_if_eq (M := M_Mm_set) (pc := 39) h39 (by decide)) ?_
  refine ac (s_iconst (M := M_Mm_set) (pc := 42) h42 rfl) ?_
  refine ac (s_iret (M := M_Mm_set) (pc := 43) h43 rfl) ?_
  refine ac (s_aldn (M := M_Mm_set) (pc := 44) (k := 0) h44) ?_
  refine ac (s_callV (M := M_Mm_set) (pc := 45) (tz_Mm rfl) h45 q_Mm_tries wd2241 wd2243 wd99 rfl (T := TX8) (N := 29) rfl) ?_
  refine ac (s_aldn (M := M_Mm_set) (pc := 48) (k := 0) h48) ?_
  refine ac (s_aldn (M := M_Mm_set) (pc := 49) (k := 0) h49) ?_
  refine ac (s_ildn (M := M_Mm_set) (pc := 50) (k := 1) h50) ?_
  refine ac (s_ildn (M := M_Mm_set) (pc := 51) (k := 2) h51) ?_
  refine ac (s_callV (M := M_Mm_set) (pc := 52) (tz_Mm rfl) h52 q_Mm_setsNow wd2245 wd2247 wd100 rfl (T := TX8) (N := 29) rfl) ?_
  refine ac (s_callV (M := M_Mm_set) (pc := 55) (tz_Mm rfl) h55 q_Mm_decided wd2249 wd2251 wd101 rfl (T := TX8) (N := 29) rfl) ?_
  refine ac (s_iret (M := M_Mm_set) (pc := 58) h58 rfl) ?_
  exact ac_nil
theorem e0_Mm_tries : decode prog_10_method_116_code 0 = .ok (.aload_n 0, 1) ∧ decode prog_10_method_116_code 1 = .ok (.aload_n 0, 1) ∧ decode prog_10_method_116_code 2 = .ok (.getfield 129, 3) ∧ decode prog_10_method_116_code 5 = .ok (.bipush 8, 2) ∧ decode prog_10_method_116_code 7 = .ok (.if_icmp .ne 7, 3) ∧ decode prog_10_method_116_code 10 = .ok (.iconst 1, 1) ∧ decode prog_10_method_116_code 11 = .ok (.goto 4, 3) ∧ decode prog_10_method_116_code 14 = .ok (.iconst 0, 1) ∧ decode prog_10_method_116_code 15 = .ok (.putfield 408, 3) ∧ decode prog_10_method_116_code 18 = .ok (.aload_n 0, 1) ∧ decode prog_10_method_116_code 19 = .ok (.getfield 23, 3) ∧ decode prog_10_method_116_code 22 = .ok (.iconst 0, 1) := by decide +kernel
theorem e1_Mm_tries : decode prog_10_method_116_code 23 = .ok (.aload_n 0, 1) ∧ decode prog_10_method_116_code 24 = .ok (.getfield 45, 3) ∧ decode prog_10_method_116_code 27 = .ok (.iconst 0, 1) ∧ decode prog_10_method_116_code 28 = .ok (.bipush 70, 2) ∧ decode prog_10_method_116_code 30 = .ok (.invokestatic 132, 3) ∧ decode prog_10_method_116_code 33 = .ok (.aload_n 0, 1) ∧ decode prog_10_method_116_code 34 = .ok (.invokevirtual 337, 3) ∧ decode prog_10_method_116_code 37 = .ok (.return_, 1) := by decide +kernel
def T_Mm_tries : TT := [(0, o_ald 0 1), (1, o_ald 0 2), (2, o_get 8 5 5), (5, o_push (.int (iI (8))) 7), (7, o_icmp_ne 14 10), (10, o_push (.int (iI (1))) 11), (11, o_goto 15), (14, o_push (.int (iI (0))) 15), (15, o_putz 8 25 18), (18, o_ald 0 19), (19, o_get 8 4 22), (22, o_push (.int (iI (0))) 23), (23, o_ald 0 24), (24, o_get 8 24 27), (27, o_push (.int (iI (0))) 28), (28, o_push (.int (iI (70))) 30), (30, o_call M_Mm_copies 5 33), (33, o_ald 0 34), (34, o_callV M_Mm_keeps 8 1 37), (37, o_vret)]
theorem k_Mm_tries : ∀ x ∈ T_Mm_tries, SO M_Mm_tries x.1 x.2 := by
  obtain ⟨h0, h1, h2, h5, h7, h10, h11, h14, h15, h18, h19, h22⟩ := e0_Mm_tries
  obtain ⟨h23, h24, h27, h28, h30, h33, h34, h37⟩ := e1_Mm_tries
  refine ac (s_aldn (M := M_Mm_tries) (pc := 0) (k := 0) h0) ?_
  refine ac (s_aldn (M := M_Mm_tries) (pc := 1) (k := 0) h1) ?_
  refine ac (s_get (M := M_Mm_tries) (pc := 2) (T := TX8) (N := 29) h2 rfl in_X8 (by decide) wd1694) ?_
  refine ac (s_bipush (M := M_Mm_tries) (pc := 5) h5 (by decide)) ?_
  refine ac (s_icmp_ne (M := M_Mm_tries) (pc := 7) h7 (by decide)) ?_
  refine ac (s_iconst (M := M_Mm_tries) (pc := 10) h10 rfl) ?_
  refine ac (s_goto (M := M_Mm_tries) (pc := 11) h11 (by decide)) ?_
  refine ac (s_iconst (M := M_Mm_tries) (pc := 14) h14 rfl) ?_
  refine ac (s_putz (M := M_Mm_tries) (pc := 15) (T := TX8) (N := 29) (ty0 := tyX8) h15 ⟨rfl, in_X8, by decide, wd1714, tyX8_ok, nmX8, (Or.inl rfl)⟩ rfl) ?_
  refine ac (s_aldn (M := M_Mm_tries) (pc := 18) (k := 0) h18) ?_
  refine ac (s_get (M := M_Mm_tries) (pc := 19) (T := TX8) (N := 29) h19 rfl in_X8 (by decide) wd1693) ?_
  refine ac (s_iconst (M := M_Mm_tries) (pc := 22) h22 rfl) ?_
  refine ac (s_aldn (M := M_Mm_tries) (pc := 23) (k := 0) h23) ?_
  refine ac (s_get (M := M_Mm_tries) (pc := 24) (T := TX8) (N := 29) h24 rfl in_X8 (by decide) wd1713) ?_
  refine ac (s_iconst (M := M_Mm_tries) (pc := 27) h27 rfl) ?_
  refine ac (s_bipush (M := M_Mm_tries) (pc := 28) h28 (by decide)) ?_
  refine ac (s_callS (M := M_Mm_tries) (pc := 30) (tz_Mm rfl) h30 q_Mm_copies wd1804 wd1805) ?_
  refine ac (s_aldn (M := M_Mm_tries) (pc := 33) (k := 0) h33) ?_
  refine ac (s_callV (M := M_Mm_tries) (pc := 34) (tz_Mm rfl) h34 q_Mm_keeps wd1964 wd1966 wd62 rfl (T := TX8) (N := 29) rfl) ?_
  refine ac (s_vret (M := M_Mm_tries) (pc := 37) h37 rfl) ?_
  exact ac_nil
theorem e0_Mm_setsNow : decode prog_10_method_118_code 0 = .ok (.aload_n 0, 1) ∧ decode prog_10_method_118_code 1 = .ok (.iload_n 2, 1) ∧ decode prog_10_method_118_code 2 = .ok (.i2l, 1) ∧ decode prog_10_method_118_code 3 = .ok (.invokevirtual 107, 3) ∧ decode prog_10_method_118_code 6 = .ok (.ifCond .ne 9, 3) ∧ decode prog_10_method_118_code 9 = .ok (.aload_n 0, 1) ∧ decode prog_10_method_118_code 10 = .ok (.iconst 5, 1) ∧ decode prog_10_method_118_code 11 = .ok (.invokevirtual 140, 3) ∧ decode prog_10_method_118_code 14 = .ok (.ireturn, 1) ∧ decode prog_10_method_118_code 15 = .ok (.aload_n 0, 1) ∧ decode prog_10_method_118_code 16 = .ok (.iload_n 1, 1) ∧ decode prog_10_method_118_code 17 = .ok (.iload_n 2, 1) := by decide +kernel
theorem e1_Mm_setsNow : decode prog_10_method_118_code 18 = .ok (.i2l, 1) ∧ decode prog_10_method_118_code 19 = .ok (.invokevirtual 122, 3) ∧ decode prog_10_method_118_code 22 = .ok (.aload_n 0, 1) ∧ decode prog_10_method_118_code 23 = .ok (.iload_n 1, 1) ∧ decode prog_10_method_118_code 24 = .ok (.invokevirtual 147, 3) ∧ decode prog_10_method_118_code 27 = .ok (.ireturn, 1) := by decide +kernel
def T_Mm_setsNow : TT := [(0, o_ald 0 1), (1, o_ild 2 2), (2, o_i2l 3), (3, o_callV M_Mm_fits 8 2 6), (6, o_if_ne 15 9), (9, o_ald 0 10), (10, o_push (.int (iI (5))) 11), (11, o_callV M_Mm_refuses 8 2 14), (14, o_iret), (15, o_ald 0 16), (16, o_ild 1 17), (17, o_ild 2 18), (18, o_i2l 19), (19, o_callV M_Mm_tells 8 3 22), (22, o_ald 0 23), (23, o_ild 1 24), (24, o_callV M_Mm_acts 8 2 27), (27, o_iret)]
theorem k_Mm_setsNow : ∀ x ∈ T_Mm_setsNow, SO M_Mm_setsNow x.1 x.2 := by
  obtain ⟨h0, h1, h2, h3, h6, h9, h10, h11, h14, h15, h16, h17⟩ := e0_Mm_setsNow
  obtain ⟨h18, h19, h22, h23, h24, h27⟩ := e1_Mm_setsNow
  refine ac (s_aldn (M := M_Mm_setsNow) (pc := 0) (k := 0) h0) ?_
  refine ac (s_ildn (M := M_Mm_setsNow) (pc := 1) (k := 2) h1) ?_
  refine ac (s_i2l (M := M_Mm_setsNow) (pc := 2) h2) ?_
  refine ac (s_callV (M := M_Mm_setsNow) (pc := 3) (tz_Mm rfl) h3 q_Mm_fits wd2017 wd2019 wd73 rfl (T := TX8) (N := 29) rfl) ?_
  refine ac (s_if_ne (M := M_Mm_setsNow) (pc := 6) h6 (by decide)) ?_
  refine ac (s_aldn (M := M_Mm_setsNow) (pc := 9) (k := 0) h9) ?_
  refine ac (s_iconst (M := M_Mm_setsNow) (pc := 10) h10 rfl) ?_
  refine ac (s_callV (M := M_Mm_setsNow) (pc := 11) (tz_Mm rfl) h11 q_Mm_refuses wd2021 wd2023 wd74 rfl (T := TX8) (N := 29) rfl) ?_
  refine ac (s_iret (M := M_Mm_setsNow) (pc := 14) h14 rfl) ?_
  refine ac (s_aldn (M := M_Mm_setsNow) (pc := 15) (k := 0) h15) ?_
  refine ac (s_ildn (M := M_Mm_setsNow) (pc := 16) (k := 1) h16) ?_
  refine ac (s_ildn (M := M_Mm_setsNow) (pc := 17) (k := 2) h17) ?_
  refine ac (s_i2l (M := M_Mm_setsNow) (pc := 18) h18) ?_
  refine ac (s_callV (M := M_Mm_setsNow) (pc := 19) (tz_Mm rfl) h19 q_Mm_tells wd1914 wd1916 wd52 rfl (T := TX8) (N := 29) rfl) ?_
  refine ac (s_aldn (M := M_Mm_setsNow) (pc := 22) (k := 0) h22) ?_
  refine ac (s_ildn (M := M_Mm_setsNow) (pc := 23) (k := 1) h23) ?_
  refine ac (s_callV (M := M_Mm_setsNow) (pc := 24) (tz_Mm rfl) h24 q_Mm_acts wd2029 wd2031 wd76 rfl (T := TX8) (N := 29) rfl) ?_
  refine ac (s_iret (M := M_Mm_setsNow) (pc := 27) h27 rfl) ?_
  exact ac_nil
theorem e0_Mm_decided : decode prog_10_method_117_code 0 = .ok (.aload_n 0, 1) ∧ decode prog_10_method_117_code 1 = .ok (.iload_n 1, 1) ∧ decode prog_10_method_117_code 2 = .ok (.invokevirtual 411, 3) ∧ decode prog_10_method_117_code 5 = .ok (.istore_n 2, 1) ∧ decode prog_10_method_117_code 6 = .ok (.iload_n 2, 1) ∧ decode prog_10_method_117_code 7 = .ok (.ifCond .eq 60, 3) ∧ decode prog_10_method_117_code 10 = .ok (.aload_n 0, 1) ∧ decode prog_10_method_117_code 11 = .ok (.getfield 408, 3) ∧ decode prog_10_method_117_code 14 = .ok (.ifCond .eq 53, 3) ∧ decode prog_10_method_117_code 17 = .ok (.sipush 489, 3) ∧ decode prog_10_method_117_code 20 = .ok (.istore_n 3, 1) ∧ decode prog_10_method_117_code 21 = .ok (.iload_n 3, 1) := by decide +kernel
theorem e1_Mm_decided : decode prog_10_method_117_code 22 = .ok (.ifCond .lt 24, 3) ∧ decode prog_10_method_117_code 25 = .ok (.aload_n 0, 1) ∧ decode prog_10_method_117_code 26 = .ok (.getfield 23, 3) ∧ decode prog_10_method_117_code 29 = .ok (.iload_n 3, 1) ∧ decode prog_10_method_117_code 30 = .ok (.bipush 70, 2) ∧ decode prog_10_method_117_code 32 = .ok (.iadd, 1) ∧ decode prog_10_method_117_code 33 = .ok (.aload_n 0, 1) ∧ decode prog_10_method_117_code 34 = .ok (.getfield 23, 3) ∧ decode prog_10_method_117_code 37 = .ok (.iload_n 3, 1) ∧ decode prog_10_method_117_code 38 = .ok (.iaload, 1) ∧ decode prog_10_method_117_code 39 = .ok (.iastore, 1) ∧ decode prog_10_method_117_code 40 = .ok (.iinc 3 (-1), 3) := by decide +kernel
theorem e2_Mm_decided : decode prog_10_method_117_code 43 = .ok (.goto (-22), 3) ∧ decode prog_10_method_117_code 46 = .ok (.aload_n 0, 1) ∧ decode prog_10_method_117_code 47 = .ok (.getfield 45, 3) ∧ decode prog_10_method_117_code 50 = .ok (.iconst 0, 1) ∧ decode prog_10_method_117_code 51 = .ok (.aload_n 0, 1) ∧ decode prog_10_method_117_code 52 = .ok (.getfield 23, 3) ∧ decode prog_10_method_117_code 55 = .ok (.iconst 0, 1) ∧ decode prog_10_method_117_code 56 = .ok (.bipush 70, 2) ∧ decode prog_10_method_117_code 58 = .ok (.invokestatic 132, 3) ∧ decode prog_10_method_117_code 61 = .ok (.aload_n 0, 1) ∧ decode prog_10_method_117_code 62 = .ok (.bipush 8, 2) ∧ decode prog_10_method_117_code 64 = .ok (.putfield 129, 3) := by decide +kernel
theorem e3_Mm_decided : decode prog_10_method_117_code 67 = .ok (.iload_n 2, 1) ∧ decode prog_10_method_117_code 68 = .ok (.ireturn, 1) := by decide +kernel
def T_Mm_decided : TT := [(0, o_ald 0 1), (1, o_ild 1 2), (2, o_callV M_Mm_tried 8 2 5), (5, o_ist 2 6), (6, o_ild 2 7), (7, o_if_eq 67 10), (10, o_ald 0 11), (11, o_get 8 25 14), (14, o_if_eq 67 17), (17, o_push (.int (iI (489))) 20), (20, o_ist 3 21), (21, o_ild 3 22), (22, o_if_lt 46 25), (25, o_ald 0 26), (26, o_get 8 4 29), (29, o_ild 3 30), (30, o_push (.int (iI (70))) 32), (32, o_iadd 33), (33, o_ald 0 34), (34, o_get 8 4 37), (37, o_ild 3 38), (38, o_iald 39), (39, o_iast 40), (40, o_iinc 3 (iI (-1)) 43), (43, o_goto 21), (46, o_ald 0 47), (47, o_get 8 24 50), (50, o_push (.int (iI (0))) 51), (51, o_ald 0 52), (52, o_get 8 4 55), (55, o_push (.int (iI (0))) 56), (56, o_push (.int (iI (70))) 58), (58, o_call M_Mm_copies 5 61), (61, o_ald 0 62), (62, o_push (.int (iI (8))) 64), (64, o_puti 8 5 67), (67, o_ild 2 68), (68, o_iret)]
theorem k_Mm_decided : ∀ x ∈ T_Mm_decided, SO M_Mm_decided x.1 x.2 := by
  obtain ⟨h0, h1, h2, h5, h6, h7, h10, h11, h14, h17, h20, h21⟩ := e0_Mm_decided
  obtain ⟨h22, h25, h26, h29, h30, h32, h33, h34, h37, h38, h39, h40⟩ := e1_Mm_decided
  obtain ⟨h43, h46, h47, h50, h51, h52, h55, h56, h58, h61, h62, h64⟩ := e2_Mm_decided
  obtain ⟨h67, h68⟩ := e3_Mm_decided
  refine ac (s_aldn (M := M_Mm_decided) (pc := 0) (k := 0) h0) ?_
  refine ac (s_ildn (M := M_Mm_decided) (pc := 1) (k := 1) h1) ?_
  refine ac (s_callV (M := M_Mm_decided) (pc := 2) (tz_Mm rfl) h2 q_Mm_tried wd2253 wd2255 wd102 rfl (T := TX8) (N := 29) rfl) ?_
  refine ac (s_istn (M := M_Mm_decided) (pc := 5) (k := 2) h5 (by decide)) ?_
  refine ac (s_ildn (M := M_Mm_decided) (pc := 6) (k := 2) h6) ?_
  refine ac (s_if_eq (M := M_Mm_decided) (pc := 7) h7 (by decide)) ?_
  refine ac (s_aldn (M := M_Mm_decided) (pc := 10) (k := 0) h10) ?_
  refine ac (s_get (M := M_Mm_decided) (pc := 11) (T := TX8) (N := 29) h11 rfl in_X8 (by decide) wd1714) ?_
  refine ac (s_if_eq (M := M_Mm_decided) (pc := 14) h14 (by decide)) ?_
  refine ac (s_sipush (M := M_Mm_decided) (pc := 17) h17 (by decide)) ?_
  refine ac (s_istn (M := M_Mm_decided) (pc := 20) (k := 3) h20 (by decide)) ?_
  refine ac (s_ildn (M := M_Mm_decided) (pc := 21) (k := 3) h21) ?_
  refine ac (s_if_lt (M := M_Mm_decided) (pc := 22) h22 (by decide)) ?_
  refine ac (s_aldn (M := M_Mm_decided) (pc := 25) (k := 0) h25) ?_
  refine ac (s_get (M := M_Mm_decided) (pc := 26) (T := TX8) (N := 29) h26 rfl in_X8 (by decide) wd1693) ?_
  refine ac (s_ildn (M := M_Mm_decided) (pc := 29) (k := 3) h29) ?_
  refine ac (s_bipush (M := M_Mm_decided) (pc := 30) h30 (by decide)) ?_
  refine ac (s_iadd (M := M_Mm_decided) (pc := 32) h32) ?_
  refine ac (s_aldn (M := M_Mm_decided) (pc := 33) (k := 0) h33) ?_
  refine ac (s_get (M := M_Mm_decided) (pc := 34) (T := TX8) (N := 29) h34 rfl in_X8 (by decide) wd1693) ?_
  refine ac (s_ildn (M := M_Mm_decided) (pc := 37) (k := 3) h37) ?_
  refine ac (s_iald (M := M_Mm_decided) (pc := 38) h38) ?_
  refine ac (s_iast (M := M_Mm_decided) (pc := 39) h39) ?_
  refine ac (s_iinc (M := M_Mm_decided) (pc := 40) h40 rfl (by decide)) ?_
  refine ac (s_goto (M := M_Mm_decided) (pc := 43) h43 (by decide)) ?_
  refine ac (s_aldn (M := M_Mm_decided) (pc := 46) (k := 0) h46) ?_
  refine ac (s_get (M := M_Mm_decided) (pc := 47) (T := TX8) (N := 29) h47 rfl in_X8 (by decide) wd1713) ?_
  refine ac (s_iconst (M := M_Mm_decided) (pc := 50) h50 rfl) ?_
  refine ac (s_aldn (M := M_Mm_decided) (pc := 51) (k := 0) h51) ?_
  refine ac (s_get (M := M_Mm_decided) (pc := 52) (T := TX8) (N := 29) h52 rfl in_X8 (by decide) wd1693) ?_
  refine ac (s_iconst (M := M_Mm_decided) (pc := 55) h55 rfl) ?_
  refine ac (s_bipush (M := M_Mm_decided) (pc := 56) h56 (by decide)) ?_
  refine ac (s_callS (M := M_Mm_decided) (pc := 58) (tz_Mm rfl) h58 q_Mm_copies wd1804 wd1805) ?_
  refine ac (s_aldn (M := M_Mm_decided) (pc := 61) (k := 0) h61) ?_
  refine ac (s_bipush (M := M_Mm_decided) (pc := 62) h62 (by decide)) ?_
  refine ac (s_puti (M := M_Mm_decided) (pc := 64) (T := TX8) (N := 29) (ty0 := tyX8) h64 ⟨rfl, in_X8, by decide, wd1694, tyX8_ok, nmX8, (Or.inl rfl)⟩ rfl) ?_
  refine ac (s_ildn (M := M_Mm_decided) (pc := 67) (k := 2) h67) ?_
  refine ac (s_iret (M := M_Mm_decided) (pc := 68) h68 rfl) ?_
  exact ac_nil
theorem e0_Mm_tried : decode prog_10_method_115_code 0 = .ok (.iload_n 1, 1) ∧ decode prog_10_method_115_code 1 = .ok (.ifCond .eq 13, 3) ∧ decode prog_10_method_115_code 4 = .ok (.aload_n 0, 1) ∧ decode prog_10_method_115_code 5 = .ok (.aload_n 0, 1) ∧ decode prog_10_method_115_code 6 = .ok (.getfield 129, 3) ∧ decode prog_10_method_115_code 9 = .ok (.iconst 1, 1) ∧ decode prog_10_method_115_code 10 = .ok (.isub, 1) ∧ decode prog_10_method_115_code 11 = .ok (.putfield 129, 3) ∧ decode prog_10_method_115_code 14 = .ok (.iload_n 1, 1) ∧ decode prog_10_method_115_code 15 = .ok (.ireturn, 1) := by decide +kernel
def T_Mm_tried : TT := [(0, o_ild 1 1), (1, o_if_eq 14 4), (4, o_ald 0 5), (5, o_ald 0 6), (6, o_get 8 5 9), (9, o_push (.int (iI (1))) 10), (10, o_isub 11), (11, o_puti 8 5 14), (14, o_ild 1 15), (15, o_iret)]
theorem k_Mm_tried : ∀ x ∈ T_Mm_tried, SO M_Mm_tried x.1 x.2 := by
  obtain ⟨h0, h1, h4, h5, h6, h9, h10, h11, h14, h15⟩ := e0_Mm_tried
  refine ac (s_ildn (M := M_Mm_tried) (pc := 0) (k := 1) h0) ?_
  refine ac (s_if_eq (M := M_Mm_tried) (pc := 1) h1 (by decide)) ?_
  refine ac (s_aldn (M := M_Mm_tried) (pc := 4) (k := 0) h4) ?_
  refine ac (s_aldn (M := M_Mm_tried) (pc := 5) (k := 0) h5) ?_
  refine ac (s_get (M := M_Mm_tried) (pc := 6) (T := TX8) (N := 29) h6 rfl in_X8 (by decide) wd1694) ?_
  refine ac (s_iconst (M := M_Mm_tried) (pc := 9) h9 rfl) ?_
  refine ac (s_isub (M := M_Mm_tried) (pc := 10) h10) ?_
  refine ac (s_puti (M := M_Mm_tried) (pc := 11) (T := TX8) (N := 29) (ty0 := tyX8) h11 ⟨rfl, in_X8, by decide, wd1694, tyX8_ok, nmX8, (Or.inl rfl)⟩ rfl) ?_
  refine ac (s_ildn (M := M_Mm_tried) (pc := 14) (k := 1) h14) ?_
  refine ac (s_iret (M := M_Mm_tried) (pc := 15) h15 rfl) ?_
  exact ac_nil
theorem e0_Mm_hurt : decode prog_10_method_120_code 0 = .ok (.aload_n 0, 1) ∧ decode prog_10_method_120_code 1 = .ok (.iload_n 1, 1) ∧ decode prog_10_method_120_code 2 = .ok (.iload_n 2, 1) ∧ decode prog_10_method_120_code 3 = .ok (.iload_n 3, 1) ∧ decode prog_10_method_120_code 4 = .ok (.invokevirtual 390, 3) ∧ decode prog_10_method_120_code 7 = .ok (.ifCond .ne 5, 3) ∧ decode prog_10_method_120_code 10 = .ok (.iconst 0, 1) ∧ decode prog_10_method_120_code 11 = .ok (.ireturn, 1) ∧ decode prog_10_method_120_code 12 = .ok (.aload_n 0, 1) ∧ decode prog_10_method_120_code 13 = .ok (.invokevirtual 337, 3) ∧ decode prog_10_method_120_code 16 = .ok (.aload_n 0, 1) ∧ decode prog_10_method_120_code 17 = .ok (.iload_n 1, 1) := by decide +kernel
theorem e1_Mm_hurt : decode prog_10_method_120_code 18 = .ok (.iload_n 2, 1) ∧ decode prog_10_method_120_code 19 = .ok (.invokevirtual 86, 3) ∧ decode prog_10_method_120_code 22 = .ok (.istore 4, 2) ∧ decode prog_10_method_120_code 24 = .ok (.aload_n 0, 1) ∧ decode prog_10_method_120_code 25 = .ok (.iload_n 1, 1) ∧ decode prog_10_method_120_code 26 = .ok (.iload_n 2, 1) ∧ decode prog_10_method_120_code 27 = .ok (.iload_n 3, 1) ∧ decode prog_10_method_120_code 28 = .ok (.invokevirtual 82, 3) ∧ decode prog_10_method_120_code 31 = .ok (.iload 4, 2) ∧ decode prog_10_method_120_code 33 = .ok (.ireturn, 1) := by decide +kernel
def T_Mm_hurt : TT := [(0, o_ald 0 1), (1, o_ild 1 2), (2, o_ild 2 3), (3, o_ild 3 4), (4, o_callV M_Mm_mayRest 8 4 7), (7, o_if_ne 12 10), (10, o_push (.int (iI (0))) 11), (11, o_iret), (12, o_ald 0 13), (13, o_callV M_Mm_keeps 8 1 16), (16, o_ald 0 17), (17, o_ild 1 18), (18, o_ild 2 19), (19, o_callV M_Mm_restOf 8 3 22), (22, o_ist 4 24), (24, o_ald 0 25), (25, o_ild 1 26), (26, o_ild 2 27), (27, o_ild 3 28), (28, o_callV M_Mm_puts 8 4 31), (31, o_ild 4 33), (33, o_iret)]
theorem k_Mm_hurt : ∀ x ∈ T_Mm_hurt, SO M_Mm_hurt x.1 x.2 := by
  obtain ⟨h0, h1, h2, h3, h4, h7, h10, h11, h12, h13, h16, h17⟩ := e0_Mm_hurt
  obtain ⟨h18, h19, h22, h24, h25, h26, h27, h28, h31, h33⟩ := e1_Mm_hurt
  refine ac (s_aldn (M := M_Mm_hurt) (pc := 0) (k := 0) h0) ?_
  refine ac (s_ildn (M := M_Mm_hurt) (pc := 1) (k := 1) h1) ?_
  refine ac (s_ildn (M := M_Mm_hurt) (pc := 2) (k := 2) h2) ?_
  refine ac (s_ildn (M := M_Mm_hurt) (pc := 3) (k := 3) h3) ?_
  refine ac (s_callV (M := M_Mm_hurt) (pc := 4) (tz_Mm rfl) h4 q_Mm_mayRest wd2196 wd2198 wd95 rfl (T := TX8) (N := 29) rfl) ?_
  refine ac (s_if_ne (M := M_Mm_hurt) (pc := 7) h7 (by decide)) ?_
  refine ac (s_iconst (M := M_Mm_hurt) (pc := 10) h10 rfl) ?_
  refine ac (s_iret (M := M_Mm_hurt) (pc := 11) h11 rfl) ?_
  refine ac (s_aldn (M := M_Mm_hurt) (pc := 12) (k := 0) h12) ?_
  refine ac (s_callV (M := M_Mm_hurt) (pc := 13) (tz_Mm rfl) h13 q_Mm_keeps wd1964 wd1966 wd62 rfl (T := TX8) (N := 29) rfl) ?_
  refine ac (s_aldn (M := M_Mm_hurt) (pc := 16) (k := 0) h16) ?_
  refine ac (s_ildn (M := M_Mm_hurt) (pc := 17) (k := 1) h17) ?_
  refine ac (s_ildn (M := M_Mm_hurt) (pc := 18) (k := 2) h18) ?_
  refine ac (s_callV (M := M_Mm_hurt) (pc := 19) (tz_Mm rfl) h19 q_Mm_restOf wd1984 wd1986 wd67 rfl (T := TX8) (N := 29) rfl) ?_
  refine ac (s_ist (M := M_Mm_hurt) (pc := 22) h22 (by decide)) ?_
  refine ac (s_aldn (M := M_Mm_hurt) (pc := 24) (k := 0) h24) ?_
  refine ac (s_ildn (M := M_Mm_hurt) (pc := 25) (k := 1) h25) ?_
  refine ac (s_ildn (M := M_Mm_hurt) (pc := 26) (k := 2) h26) ?_
  refine ac (s_ildn (M := M_Mm_hurt) (pc := 27) (k := 3) h27) ?_
  refine ac (s_callV (M := M_Mm_hurt) (pc := 28) (tz_Mm rfl) h28 q_Mm_puts wd1921 wd1923 wd53 rfl (T := TX8) (N := 29) rfl) ?_
  refine ac (s_ild (M := M_Mm_hurt) (pc := 31) h31) ?_
  refine ac (s_iret (M := M_Mm_hurt) (pc := 33) h33 rfl) ?_
  exact ac_nil
theorem e0_Mm_operate : decode prog_10_method_121_code 0 = .ok (.aload_n 0, 1) ∧ decode prog_10_method_121_code 1 = .ok (.iload_n 1, 1) ∧ decode prog_10_method_121_code 2 = .ok (.invokestatic 384, 3) ∧ decode prog_10_method_121_code 5 = .ok (.ifCond .ne 7, 3) ∧ decode prog_10_method_121_code 8 = .ok (.iconst 1, 1) ∧ decode prog_10_method_121_code 9 = .ok (.goto 33, 3) ∧ decode prog_10_method_121_code 12 = .ok (.aload_n 0, 1) ∧ decode prog_10_method_121_code 13 = .ok (.iload_n 2, 1) ∧ decode prog_10_method_121_code 14 = .ok (.invokevirtual 351, 3) ∧ decode prog_10_method_121_code 17 = .ok (.ifCond .eq 24, 3) ∧ decode prog_10_method_121_code 20 = .ok (.aload_n 0, 1) ∧ decode prog_10_method_121_code 21 = .ok (.iload_n 3, 1) := by decide +kernel
theorem e1_Mm_operate : decode prog_10_method_121_code 22 = .ok (.invokevirtual 351, 3) ∧ decode prog_10_method_121_code 25 = .ok (.ifCond .eq 16, 3) ∧ decode prog_10_method_121_code 28 = .ok (.aload_n 0, 1) ∧ decode prog_10_method_121_code 29 = .ok (.iload 4, 2) ∧ decode prog_10_method_121_code 31 = .ok (.invokevirtual 351, 3) ∧ decode prog_10_method_121_code 34 = .ok (.ifCond .eq 7, 3) ∧ decode prog_10_method_121_code 37 = .ok (.iconst 0, 1) ∧ decode prog_10_method_121_code 38 = .ok (.goto 4, 3) ∧ decode prog_10_method_121_code 41 = .ok (.iconst 2, 1) ∧ decode prog_10_method_121_code 42 = .ok (.putfield 1, 3) ∧ decode prog_10_method_121_code 45 = .ok (.aload_n 0, 1) ∧ decode prog_10_method_121_code 46 = .ok (.getfield 1, 3) := by decide +kernel
theorem e2_Mm_operate : decode prog_10_method_121_code 49 = .ok (.ifCond .eq 5, 3) ∧ decode prog_10_method_121_code 52 = .ok (.iconst 0, 1) ∧ decode prog_10_method_121_code 53 = .ok (.ireturn, 1) ∧ decode prog_10_method_121_code 54 = .ok (.aload_n 0, 1) ∧ decode prog_10_method_121_code 55 = .ok (.invokevirtual 416, 3) ∧ decode prog_10_method_121_code 58 = .ok (.aload_n 0, 1) ∧ decode prog_10_method_121_code 59 = .ok (.aload_n 0, 1) ∧ decode prog_10_method_121_code 60 = .ok (.iload_n 2, 1) ∧ decode prog_10_method_121_code 61 = .ok (.aload_n 0, 1) ∧ decode prog_10_method_121_code 62 = .ok (.iload_n 1, 1) ∧ decode prog_10_method_121_code 63 = .ok (.bipush 8, 2) ∧ decode prog_10_method_121_code 65 = .ok (.iload_n 3, 1) := by decide +kernel
theorem e3_Mm_operate : decode prog_10_method_121_code 66 = .ok (.iload 4, 2) ∧ decode prog_10_method_121_code 68 = .ok (.invokevirtual 314, 3) ∧ decode prog_10_method_121_code 71 = .ok (.invokevirtual 150, 3) ∧ decode prog_10_method_121_code 74 = .ok (.invokevirtual 422, 3) ∧ decode prog_10_method_121_code 77 = .ok (.ireturn, 1) := by decide +kernel
def T_Mm_operate : TT := [(0, o_ald 0 1), (1, o_ild 1 2), (2, o_call M_Mm_isOperation 1 5), (5, o_if_ne 12 8), (8, o_push (.int (iI (1))) 9), (9, o_goto 42), (12, o_ald 0 13), (13, o_ild 2 14), (14, o_callV M_Mm_isRegister 8 2 17), (17, o_if_eq 41 20), (20, o_ald 0 21), (21, o_ild 3 22), (22, o_callV M_Mm_isRegister 8 2 25), (25, o_if_eq 41 28), (28, o_ald 0 29), (29, o_ild 4 31), (31, o_callV M_Mm_isRegister 8 2 34), (34, o_if_eq 41 37), (37, o_push (.int (iI (0))) 38), (38, o_goto 42), (41, o_push (.int (iI (2))) 42), (42, o_puti 8 0 45), (45, o_ald 0 46), (46, o_get 8 0 49), (49, o_if_eq 54 52), (52, o_push (.int (iI (0))) 53), (53, o_iret), (54, o_ald 0 55), (55, o_callV M_Mm_tries 8 1 58), (58, o_ald 0 59), (59, o_ald 0 60), (60, o_ild 2 61), (61, o_ald 0 62), (62, o_ild 1 63), (63, o_push (.int (iI (8))) 65), (65, o_ild 3 66), (66, o_ild 4 68), (68, o_callV M_Mm_works 8 5 71), (71, o_callV M_Mm_laysInto 8 3 74), (74, o_callV M_Mm_decided 8 2 77), (77, o_iret)]
theorem k_Mm_operate : ∀ x ∈ T_Mm_operate, SO M_Mm_operate x.1 x.2 := by
  obtain ⟨h0, h1, h2, h5, h8, h9, h12, h13, h14, h17, h20, h21⟩ := e0_Mm_operate
  obtain ⟨h22, h25, h28, h29, h31, h34, h37, h38, h41, h42, h45, h46⟩ := e1_Mm_operate
  obtain ⟨h49, h52, h53, h54, h55, h58, h59, h60, h61, h62, h63, h65⟩ := e2_Mm_operate
  obtain ⟨h66, h68, h71, h74, h77⟩ := e3_Mm_operate
  refine ac (s_aldn (M := M_Mm_operate) (pc := 0) (k := 0) h0) ?_
  refine ac (s_ildn (M := M_Mm_operate) (pc := 1) (k := 1) h1) ?_
  refine ac (s_callS (M := M_Mm_operate) (pc := 2) (tz_Mm rfl) h2 q_Mm_isOperation wd2180 wd2181) ?_
  refine ac (s_if_ne (M := M_Mm_operate) (pc := 5) h5 (by decide)) ?_
  refine ac (s_iconst (M := M_Mm_operate) (pc := 8) h8 rfl) ?_
  refine ac (s_goto (M := M_Mm_operate) (pc := 9) h9 (by decide)) ?_
  refine ac (s_aldn (M := M_Mm_operate) (pc := 12) (k := 0) h12) ?_
  refine ac (s_ildn (M := M_Mm_operate) (pc := 13) (k := 2) h13) ?_
  refine ac (s_callV (M := M_Mm_operate) (pc := 14) (tz_Mm rfl) h14 q_Mm_isRegister wd2107 wd2109 wd88 rfl (T := TX8) (N := 29) rfl) ?_
  refine ac (s_if_eq (M := M_Mm_operate) (pc := 17) h17 (by decide)) ?_
  refine ac (s_aldn (M := M_Mm_operate) (pc := 20) (k := 0) h20) ?_
  refine ac (s_ildn (M := M_Mm_operate) (pc := 21) (k := 3) h21) ?_
  refine ac (s_callV (M := M_Mm_operate) (pc := 22) (tz_Mm rfl) h22 q_Mm_isRegister wd2107 wd2109 wd88 rfl (T := TX8) (N := 29) rfl) ?_
  refine ac (s_if_eq (M := M_Mm_operate) (pc := 25) h25 (by decide)) ?_
  refine ac (s_aldn (M := M_Mm_operate) (pc := 28) (k := 0) h28) ?_
  refine ac (s_ild (M := M_Mm_operate) (pc := 29) h29) ?_
  refine ac (s_callV (M := M_Mm_operate) (pc := 31) (tz_Mm rfl) h31 q_Mm_isRegister wd2107 wd2109 wd88 rfl (T := TX8) (N := 29) rfl) ?_
  refine ac (s_if_eq (M := M_Mm_operate) (pc := 34) h34 (by decide)) ?_
  refine ac (s_iconst (M := M_Mm_operate) (pc := 37) h37 rfl) ?_
  refine ac (s_goto (M := M_Mm_operate) (pc := 38) h38 (by decide)) ?_
  refine ac (s_iconst (M := M_Mm_operate) (pc := 41) h41 rfl) ?_
  refine ac (s_puti (M := M_Mm_operate) (pc := 42) (T := TX8) (N := 29) (ty0 := tyX8) h42 ⟨rfl, in_X8, by decide, wd1689, tyX8_ok, nmX8, (Or.inl rfl)⟩ rfl) ?_
  refine ac (s_aldn (M := M_Mm_operate) (pc := 45) (k := 0) h45) ?_
  refine ac (s_get (M := M_Mm_operate) (pc := 46) (T := TX8) (N := 29) h46 rfl in_X8 (by decide) wd1689) ?_
  refine ac (s_if_eq (M := M_Mm_operate) (pc := 49) h49 (by decide)) ?_
  refine ac (s_iconst (M := M_Mm_operate) (pc := 52) h52 rfl) ?_
  refine ac (s_iret (M := M_Mm_operate) (pc := 53) h53 rfl) ?_
  refine ac (s_aldn (M := M_Mm_operate) (pc := 54) (k := 0) h54) ?_
  refine ac (s_callV (M := M_Mm_operate) (pc := 55) (tz_Mm rfl) h55 q_Mm_tries wd2241 wd2243 wd99 rfl (T := TX8) (N := 29) rfl) ?_
  refine ac (s_aldn (M := M_Mm_operate) (pc := 58) (k := 0) h58) ?_
  refine ac (s_aldn (M := M_Mm_operate) (pc := 59) (k := 0) h59) ?_
  refine ac (s_ildn (M := M_Mm_operate) (pc := 60) (k := 2) h60) ?_
  refine ac (s_aldn (M := M_Mm_operate) (pc := 61) (k := 0) h61) ?_
  refine ac (s_ildn (M := M_Mm_operate) (pc := 62) (k := 1) h62) ?_
  refine ac (s_bipush (M := M_Mm_operate) (pc := 63) h63 (by decide)) ?_
  refine ac (s_ildn (M := M_Mm_operate) (pc := 65) (k := 3) h65) ?_
  refine ac (s_ild (M := M_Mm_operate) (pc := 66) h66) ?_
  refine ac (s_callV (M := M_Mm_operate) (pc := 68) (tz_Mm rfl) h68 q_Mm_works wd1988 wd1990 wd68 rfl (T := TX8) (N := 29) rfl) ?_
  refine ac (s_callV (M := M_Mm_operate) (pc := 71) (tz_Mm rfl) h71 q_Mm_laysInto wd2037 wd2039 wd78 rfl (T := TX8) (N := 29) rfl) ?_
  refine ac (s_callV (M := M_Mm_operate) (pc := 74) (tz_Mm rfl) h74 q_Mm_decided wd2249 wd2251 wd101 rfl (T := TX8) (N := 29) rfl) ?_
  refine ac (s_iret (M := M_Mm_operate) (pc := 77) h77 rfl) ?_
  exact ac_nil
theorem e0_Mm_scale : decode prog_10_method_122_code 0 = .ok (.aload_n 0, 1) ∧ decode prog_10_method_122_code 1 = .ok (.iload_n 1, 1) ∧ decode prog_10_method_122_code 2 = .ok (.iload_n 2, 1) ∧ decode prog_10_method_122_code 3 = .ok (.invokevirtual 360, 3) ∧ decode prog_10_method_122_code 6 = .ok (.ifCond .ne 5, 3) ∧ decode prog_10_method_122_code 9 = .ok (.iconst 0, 1) ∧ decode prog_10_method_122_code 10 = .ok (.ireturn, 1) ∧ decode prog_10_method_122_code 11 = .ok (.aload_n 0, 1) ∧ decode prog_10_method_122_code 12 = .ok (.invokevirtual 416, 3) ∧ decode prog_10_method_122_code 15 = .ok (.aload_n 0, 1) ∧ decode prog_10_method_122_code 16 = .ok (.aload_n 0, 1) ∧ decode prog_10_method_122_code 17 = .ok (.iload_n 1, 1) := by decide +kernel
theorem e1_Mm_scale : decode prog_10_method_122_code 18 = .ok (.iload_n 2, 1) ∧ decode prog_10_method_122_code 19 = .ok (.invokevirtual 325, 3) ∧ decode prog_10_method_122_code 22 = .ok (.invokevirtual 422, 3) ∧ decode prog_10_method_122_code 25 = .ok (.ireturn, 1) := by decide +kernel
def T_Mm_scale : TT := [(0, o_ald 0 1), (1, o_ild 1 2), (2, o_ild 2 3), (3, o_callV M_Mm_mayBoth 8 3 6), (6, o_if_ne 11 9), (9, o_push (.int (iI (0))) 10), (10, o_iret), (11, o_ald 0 12), (12, o_callV M_Mm_tries 8 1 15), (15, o_ald 0 16), (16, o_ald 0 17), (17, o_ild 1 18), (18, o_ild 2 19), (19, o_callV M_Mm_scales 8 3 22), (22, o_callV M_Mm_decided 8 2 25), (25, o_iret)]
theorem k_Mm_scale : ∀ x ∈ T_Mm_scale, SO M_Mm_scale x.1 x.2 := by
  obtain ⟨h0, h1, h2, h3, h6, h9, h10, h11, h12, h15, h16, h17⟩ := e0_Mm_scale
  obtain ⟨h18, h19, h22, h25⟩ := e1_Mm_scale
  refine ac (s_aldn (M := M_Mm_scale) (pc := 0) (k := 0) h0) ?_
  refine ac (s_ildn (M := M_Mm_scale) (pc := 1) (k := 1) h1) ?_
  refine ac (s_ildn (M := M_Mm_scale) (pc := 2) (k := 2) h2) ?_
  refine ac (s_callV (M := M_Mm_scale) (pc := 3) (tz_Mm rfl) h3 q_Mm_mayBoth wd2103 wd2105 wd87 rfl (T := TX8) (N := 29) rfl) ?_
  refine ac (s_if_ne (M := M_Mm_scale) (pc := 6) h6 (by decide)) ?_
  refine ac (s_iconst (M := M_Mm_scale) (pc := 9) h9 rfl) ?_
  refine ac (s_iret (M := M_Mm_scale) (pc := 10) h10 rfl) ?_
  refine ac (s_aldn (M := M_Mm_scale) (pc := 11) (k := 0) h11) ?_
  refine ac (s_callV (M := M_Mm_scale) (pc := 12) (tz_Mm rfl) h12 q_Mm_tries wd2241 wd2243 wd99 rfl (T := TX8) (N := 29) rfl) ?_
  refine ac (s_aldn (M := M_Mm_scale) (pc := 15) (k := 0) h15) ?_
  refine ac (s_aldn (M := M_Mm_scale) (pc := 16) (k := 0) h16) ?_
  refine ac (s_ildn (M := M_Mm_scale) (pc := 17) (k := 1) h17) ?_
  refine ac (s_ildn (M := M_Mm_scale) (pc := 18) (k := 2) h18) ?_
  refine ac (s_callV (M := M_Mm_scale) (pc := 19) (tz_Mm rfl) h19 q_Mm_scales wd2033 wd2035 wd77 rfl (T := TX8) (N := 29) rfl) ?_
  refine ac (s_callV (M := M_Mm_scale) (pc := 22) (tz_Mm rfl) h22 q_Mm_decided wd2249 wd2251 wd101 rfl (T := TX8) (N := 29) rfl) ?_
  refine ac (s_iret (M := M_Mm_scale) (pc := 25) h25 rfl) ?_
  exact ac_nil
theorem e0_Mm_mend : decode prog_10_method_123_code 0 = .ok (.aload_n 0, 1) ∧ decode prog_10_method_123_code 1 = .ok (.iload_n 1, 1) ∧ decode prog_10_method_123_code 2 = .ok (.invokevirtual 368, 3) ∧ decode prog_10_method_123_code 5 = .ok (.ifCond .ne 5, 3) ∧ decode prog_10_method_123_code 8 = .ok (.iconst 0, 1) ∧ decode prog_10_method_123_code 9 = .ok (.ireturn, 1) ∧ decode prog_10_method_123_code 10 = .ok (.aload_n 0, 1) ∧ decode prog_10_method_123_code 11 = .ok (.invokevirtual 416, 3) ∧ decode prog_10_method_123_code 14 = .ok (.aload_n 0, 1) ∧ decode prog_10_method_123_code 15 = .ok (.aload_n 0, 1) ∧ decode prog_10_method_123_code 16 = .ok (.iload_n 1, 1) ∧ decode prog_10_method_123_code 17 = .ok (.invokevirtual 328, 3) := by decide +kernel
theorem e1_Mm_mend : decode prog_10_method_123_code 20 = .ok (.invokevirtual 422, 3) ∧ decode prog_10_method_123_code 23 = .ok (.ireturn, 1) := by decide +kernel
def T_Mm_mend : TT := [(0, o_ald 0 1), (1, o_ild 1 2), (2, o_callV M_Mm_mayRegister 8 2 5), (5, o_if_ne 10 8), (8, o_push (.int (iI (0))) 9), (9, o_iret), (10, o_ald 0 11), (11, o_callV M_Mm_tries 8 1 14), (14, o_ald 0 15), (15, o_ald 0 16), (16, o_ild 1 17), (17, o_callV M_Mm_mendsNow 8 2 20), (20, o_callV M_Mm_decided 8 2 23), (23, o_iret)]
theorem k_Mm_mend : ∀ x ∈ T_Mm_mend, SO M_Mm_mend x.1 x.2 := by
  obtain ⟨h0, h1, h2, h5, h8, h9, h10, h11, h14, h15, h16, h17⟩ := e0_Mm_mend
  obtain ⟨h20, h23⟩ := e1_Mm_mend
  refine ac (s_aldn (M := M_Mm_mend) (pc := 0) (k := 0) h0) ?_
  refine ac (s_ildn (M := M_Mm_mend) (pc := 1) (k := 1) h1) ?_
  refine ac (s_callV (M := M_Mm_mend) (pc := 2) (tz_Mm rfl) h2 q_Mm_mayRegister wd2127 wd2129 wd90 rfl (T := TX8) (N := 29) rfl) ?_
  refine ac (s_if_ne (M := M_Mm_mend) (pc := 5) h5 (by decide)) ?_
  refine ac (s_iconst (M := M_Mm_mend) (pc := 8) h8 rfl) ?_
  refine ac (s_iret (M := M_Mm_mend) (pc := 9) h9 rfl) ?_
  refine ac (s_aldn (M := M_Mm_mend) (pc := 10) (k := 0) h10) ?_
  refine ac (s_callV (M := M_Mm_mend) (pc := 11) (tz_Mm rfl) h11 q_Mm_tries wd2241 wd2243 wd99 rfl (T := TX8) (N := 29) rfl) ?_
  refine ac (s_aldn (M := M_Mm_mend) (pc := 14) (k := 0) h14) ?_
  refine ac (s_aldn (M := M_Mm_mend) (pc := 15) (k := 0) h15) ?_
  refine ac (s_ildn (M := M_Mm_mend) (pc := 16) (k := 1) h16) ?_
  refine ac (s_callV (M := M_Mm_mend) (pc := 17) (tz_Mm rfl) h17 q_Mm_mendsNow wd2041 wd2043 wd79 rfl (T := TX8) (N := 29) rfl) ?_
  refine ac (s_callV (M := M_Mm_mend) (pc := 20) (tz_Mm rfl) h20 q_Mm_decided wd2249 wd2251 wd101 rfl (T := TX8) (N := 29) rfl) ?_
  refine ac (s_iret (M := M_Mm_mend) (pc := 23) h23 rfl) ?_
  exact ac_nil
theorem e0_Mm_swap : decode prog_10_method_124_code 0 = .ok (.aload_n 0, 1) ∧ decode prog_10_method_124_code 1 = .ok (.iload_n 1, 1) ∧ decode prog_10_method_124_code 2 = .ok (.iload_n 2, 1) ∧ decode prog_10_method_124_code 3 = .ok (.invokevirtual 374, 3) ∧ decode prog_10_method_124_code 6 = .ok (.ifCond .ne 5, 3) ∧ decode prog_10_method_124_code 9 = .ok (.iconst 0, 1) ∧ decode prog_10_method_124_code 10 = .ok (.ireturn, 1) ∧ decode prog_10_method_124_code 11 = .ok (.aload_n 0, 1) ∧ decode prog_10_method_124_code 12 = .ok (.invokevirtual 337, 3) ∧ decode prog_10_method_124_code 15 = .ok (.aload_n 0, 1) ∧ decode prog_10_method_124_code 16 = .ok (.iload_n 1, 1) ∧ decode prog_10_method_124_code 17 = .ok (.iload_n 2, 1) := by decide +kernel
theorem e1_Mm_swap : decode prog_10_method_124_code 18 = .ok (.invokevirtual 331, 3) ∧ decode prog_10_method_124_code 21 = .ok (.aload_n 0, 1) ∧ decode prog_10_method_124_code 22 = .ok (.iload_n 1, 1) ∧ decode prog_10_method_124_code 23 = .ok (.iload_n 2, 1) ∧ decode prog_10_method_124_code 24 = .ok (.invokevirtual 377, 3) ∧ decode prog_10_method_124_code 27 = .ok (.ireturn, 1) := by decide +kernel
def T_Mm_swap : TT := [(0, o_ald 0 1), (1, o_ild 1 2), (2, o_ild 2 3), (3, o_callV M_Mm_mayTwo 8 3 6), (6, o_if_ne 11 9), (9, o_push (.int (iI (0))) 10), (10, o_iret), (11, o_ald 0 12), (12, o_callV M_Mm_keeps 8 1 15), (15, o_ald 0 16), (16, o_ild 1 17), (17, o_ild 2 18), (18, o_callV M_Mm_swaps 8 3 21), (21, o_ald 0 22), (22, o_ild 1 23), (23, o_ild 2 24), (24, o_callV M_Mm_compares 8 3 27), (27, o_iret)]
theorem k_Mm_swap : ∀ x ∈ T_Mm_swap, SO M_Mm_swap x.1 x.2 := by
  obtain ⟨h0, h1, h2, h3, h6, h9, h10, h11, h12, h15, h16, h17⟩ := e0_Mm_swap
  obtain ⟨h18, h21, h22, h23, h24, h27⟩ := e1_Mm_swap
  refine ac (s_aldn (M := M_Mm_swap) (pc := 0) (k := 0) h0) ?_
  refine ac (s_ildn (M := M_Mm_swap) (pc := 1) (k := 1) h1) ?_
  refine ac (s_ildn (M := M_Mm_swap) (pc := 2) (k := 2) h2) ?_
  refine ac (s_callV (M := M_Mm_swap) (pc := 3) (tz_Mm rfl) h3 q_Mm_mayTwo wd2151 wd2153 wd92 rfl (T := TX8) (N := 29) rfl) ?_
  refine ac (s_if_ne (M := M_Mm_swap) (pc := 6) h6 (by decide)) ?_
  refine ac (s_iconst (M := M_Mm_swap) (pc := 9) h9 rfl) ?_
  refine ac (s_iret (M := M_Mm_swap) (pc := 10) h10 rfl) ?_
  refine ac (s_aldn (M := M_Mm_swap) (pc := 11) (k := 0) h11) ?_
  refine ac (s_callV (M := M_Mm_swap) (pc := 12) (tz_Mm rfl) h12 q_Mm_keeps wd1964 wd1966 wd62 rfl (T := TX8) (N := 29) rfl) ?_
  refine ac (s_aldn (M := M_Mm_swap) (pc := 15) (k := 0) h15) ?_
  refine ac (s_ildn (M := M_Mm_swap) (pc := 16) (k := 1) h16) ?_
  refine ac (s_ildn (M := M_Mm_swap) (pc := 17) (k := 2) h17) ?_
  refine ac (s_callV (M := M_Mm_swap) (pc := 18) (tz_Mm rfl) h18 q_Mm_swaps wd2053 wd2055 wd82 rfl (T := TX8) (N := 29) rfl) ?_
  refine ac (s_aldn (M := M_Mm_swap) (pc := 21) (k := 0) h21) ?_
  refine ac (s_ildn (M := M_Mm_swap) (pc := 22) (k := 1) h22) ?_
  refine ac (s_ildn (M := M_Mm_swap) (pc := 23) (k := 2) h23) ?_
  refine ac (s_callV (M := M_Mm_swap) (pc := 24) (tz_Mm rfl) h24 q_Mm_compares wd2155 wd2157 wd93 rfl (T := TX8) (N := 29) rfl) ?_
  refine ac (s_iret (M := M_Mm_swap) (pc := 27) h27 rfl) ?_
  exact ac_nil
theorem e0_Mm_grow : decode prog_10_method_128_code 0 = .ok (.aload_n 0, 1) ∧ decode prog_10_method_128_code 1 = .ok (.iload_n 1, 1) ∧ decode prog_10_method_128_code 2 = .ok (.i2l, 1) ∧ decode prog_10_method_128_code 3 = .ok (.ldc2_w 76, 3) ∧ decode prog_10_method_128_code 6 = .ok (.ldc2_w 181, 3) ∧ decode prog_10_method_128_code 9 = .ok (.invokestatic 57, 3) ∧ decode prog_10_method_128_code 12 = .ok (.ifCond .eq 7, 3) ∧ decode prog_10_method_128_code 15 = .ok (.iconst 0, 1) ∧ decode prog_10_method_128_code 16 = .ok (.goto 4, 3) ∧ decode prog_10_method_128_code 19 = .ok (.iconst 1, 1) ∧ decode prog_10_method_128_code 20 = .ok (.putfield 1, 3) ∧ decode prog_10_method_128_code 23 = .ok (.aload_n 0, 1) := by decide +kernel
theorem e1_Mm_grow : decode prog_10_method_128_code 24 = .ok (.getfield 1, 3) ∧ decode prog_10_method_128_code 27 = .ok (.ifCond .eq 5, 3) ∧ decode prog_10_method_128_code 30 = .ok (.iconst 0, 1) ∧ decode prog_10_method_128_code 31 = .ok (.ireturn, 1) ∧ decode prog_10_method_128_code 32 = .ok (.aload_n 0, 1) ∧ decode prog_10_method_128_code 33 = .ok (.invokevirtual 416, 3) ∧ decode prog_10_method_128_code 36 = .ok (.aload_n 0, 1) ∧ decode prog_10_method_128_code 37 = .ok (.aload_n 0, 1) ∧ decode prog_10_method_128_code 38 = .ok (.iload_n 1, 1) ∧ decode prog_10_method_128_code 39 = .ok (.invokevirtual 431, 3) ∧ decode prog_10_method_128_code 42 = .ok (.invokevirtual 422, 3) ∧ decode prog_10_method_128_code 45 = .ok (.ireturn, 1) := by decide +kernel
def T_Mm_grow : TT := [(0, o_ald 0 1), (1, o_ild 1 2), (2, o_i2l 3), (3, o_push (.long (lI (2))) 6), (6, o_push (.long (lI (97))) 9), (9, o_call M_Mm_isIn 3 12), (12, o_if_eq 19 15), (15, o_push (.int (iI (0))) 16), (16, o_goto 20), (19, o_push (.int (iI (1))) 20), (20, o_puti 8 0 23), (23, o_ald 0 24), (24, o_get 8 0 27), (27, o_if_eq 32 30), (30, o_push (.int (iI (0))) 31), (31, o_iret), (32, o_ald 0 33), (33, o_callV M_Mm_tries 8 1 36), (36, o_ald 0 37), (37, o_ald 0 38), (38, o_ild 1 39), (39, o_callV M_Mm_grows 8 2 42), (42, o_callV M_Mm_decided 8 2 45), (45, o_iret)]
theorem k_Mm_grow : ∀ x ∈ T_Mm_grow, SO M_Mm_grow x.1 x.2 := by
  obtain ⟨h0, h1, h2, h3, h6, h9, h12, h15, h16, h19, h20, h23⟩ := e0_Mm_grow
  obtain ⟨h24, h27, h30, h31, h32, h33, h36, h37, h38, h39, h42, h45⟩ := e1_Mm_grow
  refine ac (s_aldn (M := M_Mm_grow) (pc := 0) (k := 0) h0) ?_
  refine ac (s_ildn (M := M_Mm_grow) (pc := 1) (k := 1) h1) ?_
  refine ac (s_i2l (M := M_Mm_grow) (pc := 2) h2) ?_
  refine ac (s_ldc2 (M := M_Mm_grow) (pc := 3) h3 wd1857) ?_
  refine ac (s_ldc2 (M := M_Mm_grow) (pc := 6) h6 wd1819) ?_
  refine ac (s_callS (M := M_Mm_grow) (pc := 9) (tz_Mm rfl) h9 q_Mm_isIn wd1789 wd1790) ?_
  refine ac (s_if_eq (M := M_Mm_grow) (pc := 12) h12 (by decide)) ?_
  refine ac (s_iconst (M := M_Mm_grow) (pc := 15) h15 rfl) ?_
  refine ac (s_goto (M := M_Mm_grow) (pc := 16) h16 (by decide)) ?_
  refine ac (s_iconst (M := M_Mm_grow) (pc := 19) h19 rfl) ?_
  refine ac (s_puti (M := M_Mm_grow) (pc := 20) (T := TX8) (N := 29) (ty0 := tyX8) h20 ⟨rfl, in_X8, by decide, wd1689, tyX8_ok, nmX8, (Or.inl rfl)⟩ rfl) ?_
  refine ac (s_aldn (M := M_Mm_grow) (pc := 23) (k := 0) h23) ?_
  refine ac (s_get (M := M_Mm_grow) (pc := 24) (T := TX8) (N := 29) h24 rfl in_X8 (by decide) wd1689) ?_
  refine ac (s_if_eq (M := M_Mm_grow) (pc := 27) h27 (by decide)) ?_
  refine ac (s_iconst (M := M_Mm_grow) (pc := 30) h30 rfl) ?_
  refine ac (s_iret (M := M_Mm_grow) (pc := 31) h31 rfl) ?_
  refine ac (s_aldn (M := M_Mm_grow) (pc := 32) (k := 0) h32) ?_
  refine ac (s_callV (M := M_Mm_grow) (pc := 33) (tz_Mm rfl) h33 q_Mm_tries wd2241 wd2243 wd99 rfl (T := TX8) (N := 29) rfl) ?_
  refine ac (s_aldn (M := M_Mm_grow) (pc := 36) (k := 0) h36) ?_
  refine ac (s_aldn (M := M_Mm_grow) (pc := 37) (k := 0) h37) ?_
  refine ac (s_ildn (M := M_Mm_grow) (pc := 38) (k := 1) h38) ?_
  refine ac (s_callV (M := M_Mm_grow) (pc := 39) (tz_Mm rfl) h39 q_Mm_grows wd2281 wd2283 wd103 rfl (T := TX8) (N := 29) rfl) ?_
  refine ac (s_callV (M := M_Mm_grow) (pc := 42) (tz_Mm rfl) h42 q_Mm_decided wd2249 wd2251 wd101 rfl (T := TX8) (N := 29) rfl) ?_
  refine ac (s_iret (M := M_Mm_grow) (pc := 45) h45 rfl) ?_
  exact ac_nil
theorem e0_Mm_grows : decode prog_10_method_127_code 0 = .ok (.aload_n 0, 1) ∧ decode prog_10_method_127_code 1 = .ok (.iload_n 1, 1) ∧ decode prog_10_method_127_code 2 = .ok (.invokevirtual 393, 3) ∧ decode prog_10_method_127_code 5 = .ok (.ifCond .ne 9, 3) ∧ decode prog_10_method_127_code 8 = .ok (.aload_n 0, 1) ∧ decode prog_10_method_127_code 9 = .ok (.iconst 4, 1) ∧ decode prog_10_method_127_code 10 = .ok (.invokevirtual 140, 3) ∧ decode prog_10_method_127_code 13 = .ok (.ireturn, 1) ∧ decode prog_10_method_127_code 14 = .ok (.aload_n 0, 1) ∧ decode prog_10_method_127_code 15 = .ok (.invokevirtual 425, 3) ∧ decode prog_10_method_127_code 18 = .ok (.aload_n 0, 1) ∧ decode prog_10_method_127_code 19 = .ok (.invokevirtual 73, 3) := by decide +kernel
theorem e1_Mm_grows : decode prog_10_method_127_code 22 = .ok (.istore_n 2, 1) ∧ decode prog_10_method_127_code 23 = .ok (.aload_n 0, 1) ∧ decode prog_10_method_127_code 24 = .ok (.invokevirtual 61, 3) ∧ decode prog_10_method_127_code 27 = .ok (.istore_n 3, 1) ∧ decode prog_10_method_127_code 28 = .ok (.iload_n 3, 1) ∧ decode prog_10_method_127_code 29 = .ok (.iload_n 2, 1) ∧ decode prog_10_method_127_code 30 = .ok (.if_icmp .le 29, 3) ∧ decode prog_10_method_127_code 33 = .ok (.aload_n 0, 1) ∧ decode prog_10_method_127_code 34 = .ok (.getfield 13, 3) ∧ decode prog_10_method_127_code 37 = .ok (.bipush 11, 2) ∧ decode prog_10_method_127_code 39 = .ok (.iload_n 3, 1) ∧ decode prog_10_method_127_code 40 = .ok (.iadd, 1) := by decide +kernel
theorem e2_Mm_grows : decode prog_10_method_127_code 41 = .ok (.aload_n 0, 1) ∧ decode prog_10_method_127_code 42 = .ok (.getfield 13, 3) ∧ decode prog_10_method_127_code 45 = .ok (.bipush 11, 2) ∧ decode prog_10_method_127_code 47 = .ok (.iload_n 3, 1) ∧ decode prog_10_method_127_code 48 = .ok (.iadd, 1) ∧ decode prog_10_method_127_code 49 = .ok (.iconst 1, 1) ∧ decode prog_10_method_127_code 50 = .ok (.isub, 1) ∧ decode prog_10_method_127_code 51 = .ok (.iaload, 1) ∧ decode prog_10_method_127_code 52 = .ok (.iastore, 1) ∧ decode prog_10_method_127_code 53 = .ok (.iinc 3 (-1), 3) ∧ decode prog_10_method_127_code 56 = .ok (.goto (-28), 3) ∧ decode prog_10_method_127_code 59 = .ok (.aload_n 0, 1) := by decide +kernel
theorem e3_Mm_grows : decode prog_10_method_127_code 60 = .ok (.getfield 13, 3) ∧ decode prog_10_method_127_code 63 = .ok (.bipush 11, 2) ∧ decode prog_10_method_127_code 65 = .ok (.iload_n 2, 1) ∧ decode prog_10_method_127_code 66 = .ok (.iadd, 1) ∧ decode prog_10_method_127_code 67 = .ok (.iload_n 1, 1) ∧ decode prog_10_method_127_code 68 = .ok (.iastore, 1) ∧ decode prog_10_method_127_code 69 = .ok (.aload_n 0, 1) ∧ decode prog_10_method_127_code 70 = .ok (.getfield 13, 3) ∧ decode prog_10_method_127_code 73 = .ok (.iconst 0, 1) ∧ decode prog_10_method_127_code 74 = .ok (.aload_n 0, 1) ∧ decode prog_10_method_127_code 75 = .ok (.invokevirtual 61, 3) ∧ decode prog_10_method_127_code 78 = .ok (.iconst 1, 1) := by decide +kernel
theorem e4_Mm_grows : decode prog_10_method_127_code 79 = .ok (.iadd, 1) ∧ decode prog_10_method_127_code 80 = .ok (.iastore, 1) ∧ decode prog_10_method_127_code 81 = .ok (.aload_n 0, 1) ∧ decode prog_10_method_127_code 82 = .ok (.invokevirtual 428, 3) ∧ decode prog_10_method_127_code 85 = .ok (.aload_n 0, 1) ∧ decode prog_10_method_127_code 86 = .ok (.iconst 0, 1) ∧ decode prog_10_method_127_code 87 = .ok (.invokevirtual 136, 3) ∧ decode prog_10_method_127_code 90 = .ok (.iconst 0, 1) ∧ decode prog_10_method_127_code 91 = .ok (.ireturn, 1) := by decide +kernel
def T_Mm_grows : TT := [(0, o_ald 0 1), (1, o_ild 1 2), (2, o_callV M_Mm_canGrow 8 2 5), (5, o_if_ne 14 8), (8, o_ald 0 9), (9, o_push (.int (iI (4))) 10), (10, o_callV M_Mm_refuses 8 2 13), (13, o_iret), (14, o_ald 0 15), (15, o_callV M_Mm_laysNumbers 8 1 18), (18, o_ald 0 19), (19, o_callV M_Mm_bases 8 1 22), (22, o_ist 2 23), (23, o_ald 0 24), (24, o_callV M_Mm_many 8 1 27), (27, o_ist 3 28), (28, o_ild 3 29), (29, o_ild 2 30), (30, o_icmp_le 59 33), (33, o_ald 0 34), (34, o_get 8 1 37), (37, o_push (.int (iI (11))) 39), (39, o_ild 3 40), (40, o_iadd 41), (41, o_ald 0 42), (42, o_get 8 1 45), (45, o_push (.int (iI (11))) 47), (47, o_ild 3 48), (48, o_iadd 49), (49, o_push (.int (iI (1))) 50), (50, o_isub 51), (51, o_iald 52), (52, o_iast 53), (53, o_iinc 3 (iI (-1)) 56), (56, o_goto 28), (59, o_ald 0 60), (60, o_get 8 1 63), (63, o_push (.int (iI (11))) 65), (65, o_ild 2 66), (66, o_iadd 67), (67, o_ild 1 68), (68, o_iast 69), (69, o_ald 0 70), (70, o_get 8 1 73), (73, o_push (.int (iI (0))) 74), (74, o_ald 0 75), (75, o_callV M_Mm_many 8 1 78), (78, o_push (.int (iI (1))) 79), (79, o_iadd 80), (80, o_iast 81), (81, o_ald 0 82), (82, o_callV M_Mm_tellsNumbers 8 1 85), (85, o_ald 0 86), (86, o_push (.int (iI (0))) 87), (87, o_callV M_Mm_counts 8 2 90), (90, o_push (.int (iI (0))) 91), (91, o_iret)]
theorem k_Mm_grows : ∀ x ∈ T_Mm_grows, SO M_Mm_grows x.1 x.2 := by
  obtain ⟨h0, h1, h2, h5, h8, h9, h10, h13, h14, h15, h18, h19⟩ := e0_Mm_grows
  obtain ⟨h22, h23, h24, h27, h28, h29, h30, h33, h34, h37, h39, h40⟩ := e1_Mm_grows
  obtain ⟨h41, h42, h45, h47, h48, h49, h50, h51, h52, h53, h56, h59⟩ := e2_Mm_grows
  obtain ⟨h60, h63, h65, h66, h67, h68, h69, h70, h73, h74, h75, h78⟩ := e3_Mm_grows
  obtain ⟨h79, h80, h81, h82, h85, h86, h87, h90, h91⟩ := e4_Mm_grows
  refine ac (s_aldn (M := M_Mm_grows) (pc := 0) (k := 0) h0) ?_
  refine ac (s_ildn (M := M_Mm_grows) (pc := 1) (k := 1) h1) ?_
  refine ac (s_callV (M := M_Mm_grows) (pc := 2) (tz_Mm rfl) h2 q_Mm_canGrow wd2204 wd2206 wd96 rfl (T := TX8) (N := 29) rfl) ?_
  refine ac (s_if_ne (M := M_Mm_grows) (pc := 5) h5 (by decide)) ?_
  refine ac (s_aldn (M := M_Mm_grows) (pc := 8) (k := 0) h8) ?_
  refine ac (s_iconst (M := M_Mm_grows) (pc := 9) h9 rfl) ?_
  refine ac (s_callV (M := M_Mm_grows) (pc := 10) (tz_Mm rfl) h10 q_Mm_refuses wd2021 wd2023 wd74 rfl (T := TX8) (N := 29) rfl) ?_
  refine ac (s_iret (M := M_Mm_grows) (pc := 13) h13 rfl) ?_
  refine ac (s_aldn (M := M_Mm_grows) (pc := 14) (k := 0) h14) ?_
  refine ac (s_callV (M := M_Mm_grows) (pc := 15) (tz_Mm rfl) h15 q_Mm_laysNumbers wd2285 wd2287 wd104 rfl (T := TX8) (N := 29) rfl) ?_
  refine ac (s_aldn (M := M_Mm_grows) (pc := 18) (k := 0) h18) ?_
  refine ac (s_callV (M := M_Mm_grows) (pc := 19) (tz_Mm rfl) h19 q_Mm_bases wd1910 wd1912 wd51 rfl (T := TX8) (N := 29) rfl) ?_
  refine ac (s_istn (M := M_Mm_grows) (pc := 22) (k := 2) h22 (by decide)) ?_
  refine ac (s_aldn (M := M_Mm_grows) (pc := 23) (k := 0) h23) ?_
  refine ac (s_callV (M := M_Mm_grows) (pc := 24) (tz_Mm rfl) h24 q_Mm_many wd1849 wd1851 wd38 rfl (T := TX8) (N := 29) rfl) ?_
  refine ac (s_istn (M := M_Mm_grows) (pc := 27) (k := 3) h27 (by decide)) ?_
  refine ac (s_ildn (M := M_Mm_grows) (pc := 28) (k := 3) h28) ?_
  refine ac (s_ildn (M := M_Mm_grows) (pc := 29) (k := 2) h29) ?_
  refine ac (s_icmp_le (M := M_Mm_grows) (pc := 30) h30 (by decide)) ?_
  refine ac (s_aldn (M := M_Mm_grows) (pc := 33) (k := 0) h33) ?_
  refine ac (s_get (M := M_Mm_grows) (pc := 34) (T := TX8) (N := 29) h34 rfl in_X8 (by decide) wd1690) ?_
  refine ac (s_bipush (M := M_Mm_grows) (pc := 37) h37 (by decide)) ?_
  refine ac (s_ildn (M := M_Mm_grows) (pc := 39) (k := 3) h39) ?_
  refine ac (s_iadd (M := M_Mm_grows) (pc := 40) h40) ?_
  refine ac (s_aldn (M := M_Mm_grows) (pc := 41) (k := 0) h41) ?_
  refine ac (s_get (M := M_Mm_grows) (pc := 42) (T := TX8) (N := 29) h42 rfl in_X8 (by decide) wd1690) ?_
  refine ac (s_bipush (M := M_Mm_grows) (pc := 45) h45 (by decide)) ?_
  refine ac (s_ildn (M := M_Mm_grows) (pc := 47) (k := 3) h47) ?_
  refine ac (s_iadd (M := M_Mm_grows) (pc := 48) h48) ?_
  refine ac (s_iconst (M := M_Mm_grows) (pc := 49) h49 rfl) ?_
  refine ac (s_isub (M := M_Mm_grows) (pc := 50) h50) ?_
  refine ac (s_iald (M := M_Mm_grows) (pc := 51) h51) ?_
  refine ac (s_iast (M := M_Mm_grows) (pc := 52) h52) ?_
  refine ac (s_iinc (M := M_Mm_grows) (pc := 53) h53 rfl (by decide)) ?_
  refine ac (s_goto (M := M_Mm_grows) (pc := 56) h56 (by decide)) ?_
  refine ac (s_aldn (M := M_Mm_grows) (pc := 59) (k := 0) h59) ?_
  refine ac (s_get (M := M_Mm_grows) (pc := 60) (T := TX8) (N := 29) h60 rfl in_X8 (by decide) wd1690) ?_
  refine ac (s_bipush (M := M_Mm_grows) (pc := 63) h63 (by decide)) ?_
  refine ac (s_ildn (M := M_Mm_grows) (pc := 65) (k := 2) h65) ?_
  refine ac (s_iadd (M := M_Mm_grows) (pc := 66) h66) ?_
  refine ac (s_ildn (M := M_Mm_grows) (pc := 67) (k := 1) h67) ?_
  refine ac (s_iast (M := M_Mm_grows) (pc := 68) h68) ?_
  refine ac (s_aldn (M := M_Mm_grows) (pc := 69) (k := 0) h69) ?_
  refine ac (s_get (M := M_Mm_grows) (pc := 70) (T := TX8) (N := 29) h70 rfl in_X8 (by decide) wd1690) ?_
  refine ac (s_iconst (M := M_Mm_grows) (pc := 73) h73 rfl) ?_
  refine ac (s_aldn (M := M_Mm_grows) (pc := 74) (k := 0) h74) ?_
  refine ac (s_callV (M := M_Mm_grows) (pc := 75) (tz_Mm rfl) h75 q_Mm_many wd1849 wd1851 wd38 rfl (T := TX8) (N := 29) rfl) ?_
  refine ac (s_iconst (M := M_Mm_grows) (pc := 78) h78 rfl) ?_
  refine ac (s_iadd (M := M_Mm_grows) (pc := 79) h79) ?_
  refine ac (s_iast (M := M_Mm_grows) (pc := 80) h80) ?_
  refine ac (s_aldn (M := M_Mm_grows) (pc := 81) (k := 0) h81) ?_
  refine ac (s_callV (M := M_Mm_grows) (pc := 82) (tz_Mm rfl) h82 q_Mm_tellsNumbers wd2289 wd2291 wd105 rfl (T := TX8) (N := 29) rfl) ?_
  refine ac (s_aldn (M := M_Mm_grows) (pc := 85) (k := 0) h85) ?_
  refine ac (s_iconst (M := M_Mm_grows) (pc := 86) h86 rfl) ?_
  refine ac (s_callV (M := M_Mm_grows) (pc := 87) (tz_Mm rfl) h87 q_Mm_counts wd2025 wd2027 wd75 rfl (T := TX8) (N := 29) rfl) ?_
  refine ac (s_iconst (M := M_Mm_grows) (pc := 90) h90 rfl) ?_
  refine ac (s_iret (M := M_Mm_grows) (pc := 91) h91 rfl) ?_
  exact ac_nil
theorem e0_Mm_laysNumbers : decode prog_10_method_125_code 0 = .ok (.iconst 0, 1) ∧ decode prog_10_method_125_code 1 = .ok (.istore_n 1, 1) ∧ decode prog_10_method_125_code 2 = .ok (.iload_n 1, 1) ∧ decode prog_10_method_125_code 3 = .ok (.bipush 8, 2) ∧ decode prog_10_method_125_code 5 = .ok (.if_icmp .ge 20, 3) ∧ decode prog_10_method_125_code 8 = .ok (.aload_n 0, 1) ∧ decode prog_10_method_125_code 9 = .ok (.getfield 48, 3) ∧ decode prog_10_method_125_code 12 = .ok (.iload_n 1, 1) ∧ decode prog_10_method_125_code 13 = .ok (.aload_n 0, 1) ∧ decode prog_10_method_125_code 14 = .ok (.iload_n 1, 1) ∧ decode prog_10_method_125_code 15 = .ok (.invokevirtual 104, 3) ∧ decode prog_10_method_125_code 18 = .ok (.lastore, 1) := by decide +kernel
theorem e1_Mm_laysNumbers : decode prog_10_method_125_code 19 = .ok (.iinc 1 1, 3) ∧ decode prog_10_method_125_code 22 = .ok (.goto (-20), 3) ∧ decode prog_10_method_125_code 25 = .ok (.return_, 1) := by decide +kernel
def T_Mm_laysNumbers : TT := [(0, o_push (.int (iI (0))) 1), (1, o_ist 1 2), (2, o_ild 1 3), (3, o_push (.int (iI (8))) 5), (5, o_icmp_ge 25 8), (8, o_ald 0 9), (9, o_get 8 26 12), (12, o_ild 1 13), (13, o_ald 0 14), (14, o_ild 1 15), (15, o_callV M_Mm_numberOf 8 2 18), (18, o_last 19), (19, o_iinc 1 (iI (1)) 22), (22, o_goto 2), (25, o_vret)]
theorem k_Mm_laysNumbers : ∀ x ∈ T_Mm_laysNumbers, SO M_Mm_laysNumbers x.1 x.2 := by
  obtain ⟨h0, h1, h2, h3, h5, h8, h9, h12, h13, h14, h15, h18⟩ := e0_Mm_laysNumbers
  obtain ⟨h19, h22, h25⟩ := e1_Mm_laysNumbers
  refine ac (s_iconst (M := M_Mm_laysNumbers) (pc := 0) h0 rfl) ?_
  refine ac (s_istn (M := M_Mm_laysNumbers) (pc := 1) (k := 1) h1 (by decide)) ?_
  refine ac (s_ildn (M := M_Mm_laysNumbers) (pc := 2) (k := 1) h2) ?_
  refine ac (s_bipush (M := M_Mm_laysNumbers) (pc := 3) h3 (by decide)) ?_
  refine ac (s_icmp_ge (M := M_Mm_laysNumbers) (pc := 5) h5 (by decide)) ?_
  refine ac (s_aldn (M := M_Mm_laysNumbers) (pc := 8) (k := 0) h8) ?_
  refine ac (s_get (M := M_Mm_laysNumbers) (pc := 9) (T := TX8) (N := 29) h9 rfl in_X8 (by decide) wd1715) ?_
  refine ac (s_ildn (M := M_Mm_laysNumbers) (pc := 12) (k := 1) h12) ?_
  refine ac (s_aldn (M := M_Mm_laysNumbers) (pc := 13) (k := 0) h13) ?_
  refine ac (s_ildn (M := M_Mm_laysNumbers) (pc := 14) (k := 1) h14) ?_
  refine ac (s_callV (M := M_Mm_laysNumbers) (pc := 15) (tz_Mm rfl) h15 q_Mm_numberOf wd1992 wd1994 wd69 rfl (T := TX8) (N := 29) rfl) ?_
  refine ac (s_last (M := M_Mm_laysNumbers) (pc := 18) h18) ?_
  refine ac (s_iinc (M := M_Mm_laysNumbers) (pc := 19) h19 rfl (by decide)) ?_
  refine ac (s_goto (M := M_Mm_laysNumbers) (pc := 22) h22 (by decide)) ?_
  refine ac (s_vret (M := M_Mm_laysNumbers) (pc := 25) h25 rfl) ?_
  exact ac_nil
theorem e0_Mm_tellsNumbers : decode prog_10_method_126_code 0 = .ok (.iconst 0, 1) ∧ decode prog_10_method_126_code 1 = .ok (.istore_n 1, 1) ∧ decode prog_10_method_126_code 2 = .ok (.iload_n 1, 1) ∧ decode prog_10_method_126_code 3 = .ok (.bipush 8, 2) ∧ decode prog_10_method_126_code 5 = .ok (.if_icmp .ge 20, 3) ∧ decode prog_10_method_126_code 8 = .ok (.aload_n 0, 1) ∧ decode prog_10_method_126_code 9 = .ok (.iload_n 1, 1) ∧ decode prog_10_method_126_code 10 = .ok (.aload_n 0, 1) ∧ decode prog_10_method_126_code 11 = .ok (.getfield 48, 3) ∧ decode prog_10_method_126_code 14 = .ok (.iload_n 1, 1) ∧ decode prog_10_method_126_code 15 = .ok (.laload, 1) ∧ decode prog_10_method_126_code 16 = .ok (.invokevirtual 122, 3) := by decide +kernel
theorem e1_Mm_tellsNumbers : decode prog_10_method_126_code 19 = .ok (.iinc 1 1, 3) ∧ decode prog_10_method_126_code 22 = .ok (.goto (-20), 3) ∧ decode prog_10_method_126_code 25 = .ok (.return_, 1) := by decide +kernel
def T_Mm_tellsNumbers : TT := [(0, o_push (.int (iI (0))) 1), (1, o_ist 1 2), (2, o_ild 1 3), (3, o_push (.int (iI (8))) 5), (5, o_icmp_ge 25 8), (8, o_ald 0 9), (9, o_ild 1 10), (10, o_ald 0 11), (11, o_get 8 26 14), (14, o_ild 1 15), (15, o_lald 16), (16, o_callV M_Mm_tells 8 3 19), (19, o_iinc 1 (iI (1)) 22), (22, o_goto 2), (25, o_vret)]
theorem k_Mm_tellsNumbers : ∀ x ∈ T_Mm_tellsNumbers, SO M_Mm_tellsNumbers x.1 x.2 := by
  obtain ⟨h0, h1, h2, h3, h5, h8, h9, h10, h11, h14, h15, h16⟩ := e0_Mm_tellsNumbers
  obtain ⟨h19, h22, h25⟩ := e1_Mm_tellsNumbers
  refine ac (s_iconst (M := M_Mm_tellsNumbers) (pc := 0) h0 rfl) ?_
  refine ac (s_istn (M := M_Mm_tellsNumbers) (pc := 1) (k := 1) h1 (by decide)) ?_
  refine ac (s_ildn (M := M_Mm_tellsNumbers) (pc := 2) (k := 1) h2) ?_
  refine ac (s_bipush (M := M_Mm_tellsNumbers) (pc := 3) h3 (by decide)) ?_
  refine ac (s_icmp_ge (M := M_Mm_tellsNumbers) (pc := 5) h5 (by decide)) ?_
  refine ac (s_aldn (M := M_Mm_tellsNumbers) (pc := 8) (k := 0) h8) ?_
  refine ac (s_ildn (M := M_Mm_tellsNumbers) (pc := 9) (k := 1) h9) ?_
  refine ac (s_aldn (M := M_Mm_tellsNumbers) (pc := 10) (k := 0) h10) ?_
  refine ac (s_get (M := M_Mm_tellsNumbers) (pc := 11) (T := TX8) (N := 29) h11 rfl in_X8 (by decide) wd1715) ?_
  refine ac (s_ildn (M := M_Mm_tellsNumbers) (pc := 14) (k := 1) h14) ?_
  refine ac (s_lald (M := M_Mm_tellsNumbers) (pc := 15) h15) ?_
  refine ac (s_callV (M := M_Mm_tellsNumbers) (pc := 16) (tz_Mm rfl) h16 q_Mm_tells wd1914 wd1916 wd52 rfl (T := TX8) (N := 29) rfl) ?_
  refine ac (s_iinc (M := M_Mm_tellsNumbers) (pc := 19) h19 rfl (by decide)) ?_
  refine ac (s_goto (M := M_Mm_tellsNumbers) (pc := 22) h22 (by decide)) ?_
  refine ac (s_vret (M := M_Mm_tellsNumbers) (pc := 25) h25 rfl) ?_
  exact ac_nil
theorem e0_Mm_drop : decode prog_10_method_130_code 0 = .ok (.aload_n 0, 1) ∧ decode prog_10_method_130_code 1 = .ok (.iload_n 1, 1) ∧ decode prog_10_method_130_code 2 = .ok (.invokevirtual 354, 3) ∧ decode prog_10_method_130_code 5 = .ok (.ifCond .ne 5, 3) ∧ decode prog_10_method_130_code 8 = .ok (.iconst 0, 1) ∧ decode prog_10_method_130_code 9 = .ok (.ireturn, 1) ∧ decode prog_10_method_130_code 10 = .ok (.aload_n 0, 1) ∧ decode prog_10_method_130_code 11 = .ok (.invokevirtual 416, 3) ∧ decode prog_10_method_130_code 14 = .ok (.aload_n 0, 1) ∧ decode prog_10_method_130_code 15 = .ok (.aload_n 0, 1) ∧ decode prog_10_method_130_code 16 = .ok (.iload_n 1, 1) ∧ decode prog_10_method_130_code 17 = .ok (.invokevirtual 434, 3) := by decide +kernel
theorem e1_Mm_drop : decode prog_10_method_130_code 20 = .ok (.invokevirtual 422, 3) ∧ decode prog_10_method_130_code 23 = .ok (.ireturn, 1) := by decide +kernel
def T_Mm_drop : TT := [(0, o_ald 0 1), (1, o_ild 1 2), (2, o_callV M_Mm_mayModulus 8 2 5), (5, o_if_ne 10 8), (8, o_push (.int (iI (0))) 9), (9, o_iret), (10, o_ald 0 11), (11, o_callV M_Mm_tries 8 1 14), (14, o_ald 0 15), (15, o_ald 0 16), (16, o_ild 1 17), (17, o_callV M_Mm_dropsNow 8 2 20), (20, o_callV M_Mm_decided 8 2 23), (23, o_iret)]
theorem k_Mm_drop : ∀ x ∈ T_Mm_drop, SO M_Mm_drop x.1 x.2 := by
  obtain ⟨h0, h1, h2, h5, h8, h9, h10, h11, h14, h15, h16, h17⟩ := e0_Mm_drop
  obtain ⟨h20, h23⟩ := e1_Mm_drop
  refine ac (s_aldn (M := M_Mm_drop) (pc := 0) (k := 0) h0) ?_
  refine ac (s_ildn (M := M_Mm_drop) (pc := 1) (k := 1) h1) ?_
  refine ac (s_callV (M := M_Mm_drop) (pc := 2) (tz_Mm rfl) h2 q_Mm_mayModulus wd2079 wd2081 wd84 rfl (T := TX8) (N := 29) rfl) ?_
  refine ac (s_if_ne (M := M_Mm_drop) (pc := 5) h5 (by decide)) ?_
  refine ac (s_iconst (M := M_Mm_drop) (pc := 8) h8 rfl) ?_
  refine ac (s_iret (M := M_Mm_drop) (pc := 9) h9 rfl) ?_
  refine ac (s_aldn (M := M_Mm_drop) (pc := 10) (k := 0) h10) ?_
  refine ac (s_callV (M := M_Mm_drop) (pc := 11) (tz_Mm rfl) h11 q_Mm_tries wd2241 wd2243 wd99 rfl (T := TX8) (N := 29) rfl) ?_
  refine ac (s_aldn (M := M_Mm_drop) (pc := 14) (k := 0) h14) ?_
  refine ac (s_aldn (M := M_Mm_drop) (pc := 15) (k := 0) h15) ?_
  refine ac (s_ildn (M := M_Mm_drop) (pc := 16) (k := 1) h16) ?_
  refine ac (s_callV (M := M_Mm_drop) (pc := 17) (tz_Mm rfl) h17 q_Mm_dropsNow wd2297 wd2299 wd106 rfl (T := TX8) (N := 29) rfl) ?_
  refine ac (s_callV (M := M_Mm_drop) (pc := 20) (tz_Mm rfl) h20 q_Mm_decided wd2249 wd2251 wd101 rfl (T := TX8) (N := 29) rfl) ?_
  refine ac (s_iret (M := M_Mm_drop) (pc := 23) h23 rfl) ?_
  exact ac_nil
theorem e0_Mm_dropsNow : decode prog_10_method_129_code 0 = .ok (.aload_n 0, 1) ∧ decode prog_10_method_129_code 1 = .ok (.iload_n 1, 1) ∧ decode prog_10_method_129_code 2 = .ok (.invokevirtual 400, 3) ∧ decode prog_10_method_129_code 5 = .ok (.ifCond .ne 9, 3) ∧ decode prog_10_method_129_code 8 = .ok (.aload_n 0, 1) ∧ decode prog_10_method_129_code 9 = .ok (.iconst 4, 1) ∧ decode prog_10_method_129_code 10 = .ok (.invokevirtual 140, 3) ∧ decode prog_10_method_129_code 13 = .ok (.ireturn, 1) ∧ decode prog_10_method_129_code 14 = .ok (.aload_n 0, 1) ∧ decode prog_10_method_129_code 15 = .ok (.invokevirtual 425, 3) ∧ decode prog_10_method_129_code 18 = .ok (.iload_n 1, 1) ∧ decode prog_10_method_129_code 19 = .ok (.aload_n 0, 1) := by decide +kernel
theorem e1_Mm_dropsNow : decode prog_10_method_129_code 20 = .ok (.invokevirtual 73, 3) ∧ decode prog_10_method_129_code 23 = .ok (.if_icmp .lt 17, 3) ∧ decode prog_10_method_129_code 26 = .ok (.aload_n 0, 1) ∧ decode prog_10_method_129_code 27 = .ok (.getfield 13, 3) ∧ decode prog_10_method_129_code 30 = .ok (.iconst 1, 1) ∧ decode prog_10_method_129_code 31 = .ok (.aload_n 0, 1) ∧ decode prog_10_method_129_code 32 = .ok (.getfield 13, 3) ∧ decode prog_10_method_129_code 35 = .ok (.iconst 1, 1) ∧ decode prog_10_method_129_code 36 = .ok (.iaload, 1) ∧ decode prog_10_method_129_code 37 = .ok (.iconst 1, 1) ∧ decode prog_10_method_129_code 38 = .ok (.isub, 1) ∧ decode prog_10_method_129_code 39 = .ok (.iastore, 1) := by decide +kernel
theorem e2_Mm_dropsNow : decode prog_10_method_129_code 40 = .ok (.aload_n 0, 1) ∧ decode prog_10_method_129_code 41 = .ok (.getfield 13, 3) ∧ decode prog_10_method_129_code 44 = .ok (.iconst 0, 1) ∧ decode prog_10_method_129_code 45 = .ok (.aload_n 0, 1) ∧ decode prog_10_method_129_code 46 = .ok (.invokevirtual 61, 3) ∧ decode prog_10_method_129_code 49 = .ok (.iconst 1, 1) ∧ decode prog_10_method_129_code 50 = .ok (.isub, 1) ∧ decode prog_10_method_129_code 51 = .ok (.iastore, 1) ∧ decode prog_10_method_129_code 52 = .ok (.iload_n 1, 1) ∧ decode prog_10_method_129_code 53 = .ok (.istore_n 2, 1) ∧ decode prog_10_method_129_code 54 = .ok (.iload_n 2, 1) ∧ decode prog_10_method_129_code 55 = .ok (.aload_n 0, 1) := by decide +kernel
theorem e3_Mm_dropsNow : decode prog_10_method_129_code 56 = .ok (.invokevirtual 61, 3) ∧ decode prog_10_method_129_code 59 = .ok (.if_icmp .ge 29, 3) ∧ decode prog_10_method_129_code 62 = .ok (.aload_n 0, 1) ∧ decode prog_10_method_129_code 63 = .ok (.getfield 13, 3) ∧ decode prog_10_method_129_code 66 = .ok (.bipush 11, 2) ∧ decode prog_10_method_129_code 68 = .ok (.iload_n 2, 1) ∧ decode prog_10_method_129_code 69 = .ok (.iadd, 1) ∧ decode prog_10_method_129_code 70 = .ok (.aload_n 0, 1) ∧ decode prog_10_method_129_code 71 = .ok (.getfield 13, 3) ∧ decode prog_10_method_129_code 74 = .ok (.bipush 11, 2) ∧ decode prog_10_method_129_code 76 = .ok (.iload_n 2, 1) ∧ decode prog_10_method_129_code 77 = .ok (.iadd, 1) := by decide +kernel
theorem e4_Mm_dropsNow : decode prog_10_method_129_code 78 = .ok (.iconst 1, 1) ∧ decode prog_10_method_129_code 79 = .ok (.iadd, 1) ∧ decode prog_10_method_129_code 80 = .ok (.iaload, 1) ∧ decode prog_10_method_129_code 81 = .ok (.iastore, 1) ∧ decode prog_10_method_129_code 82 = .ok (.iinc 2 1, 3) ∧ decode prog_10_method_129_code 85 = .ok (.goto (-31), 3) ∧ decode prog_10_method_129_code 88 = .ok (.aload_n 0, 1) ∧ decode prog_10_method_129_code 89 = .ok (.invokevirtual 428, 3) ∧ decode prog_10_method_129_code 92 = .ok (.aload_n 0, 1) ∧ decode prog_10_method_129_code 93 = .ok (.iconst 0, 1) ∧ decode prog_10_method_129_code 94 = .ok (.invokevirtual 136, 3) ∧ decode prog_10_method_129_code 97 = .ok (.iconst 0, 1) := by decide +kernel
theorem e5_Mm_dropsNow : decode prog_10_method_129_code 98 = .ok (.ireturn, 1) := by decide +kernel
def T_Mm_dropsNow : TT := [(0, o_ald 0 1), (1, o_ild 1 2), (2, o_callV M_Mm_canDrop 8 2 5), (5, o_if_ne 14 8), (8, o_ald 0 9), (9, o_push (.int (iI (4))) 10), (10, o_callV M_Mm_refuses 8 2 13), (13, o_iret), (14, o_ald 0 15), (15, o_callV M_Mm_laysNumbers 8 1 18), (18, o_ild 1 19), (19, o_ald 0 20), (20, o_callV M_Mm_bases 8 1 23), (23, o_icmp_lt 40 26), (26, o_ald 0 27), (27, o_get 8 1 30), (30, o_push (.int (iI (1))) 31), (31, o_ald 0 32), (32, o_get 8 1 35), (35, o_push (.int (iI (1))) 36), (36, o_iald 37), (37, o_push (.int (iI (1))) 38), (38, o_isub 39), (39, o_iast 40), (40, o_ald 0 41), (41, o_get 8 1 44), (44, o_push (.int (iI (0))) 45), (45, o_ald 0 46), (46, o_callV M_Mm_many 8 1 49), (49, o_push (.int (iI (1))) 50), (50, o_isub 51), (51, o_iast 52), (52, o_ild 1 53), (53, o_ist 2 54), (54, o_ild 2 55), (55, o_ald 0 56), (56, o_callV M_Mm_many 8 1 59), (59, o_icmp_ge 88 62), (62, o_ald 0 63), (63, o_get 8 1 66), (66, o_push (.int (iI (11))) 68), (68, o_ild 2 69), (69, o_iadd 70), (70, o_ald 0 71), (71, o_get 8 1 74), (74, o_push (.int (iI (11))) 76), (76, o_ild 2 77), (77, o_iadd 78), (78, o_push (.int (iI (1))) 79), (79, o_iadd 80), (80, o_iald 81), (81, o_iast 82), (82, o_iinc 2 (iI (1)) 85), (85, o_goto 54), (88, o_ald 0 89), (89, o_callV M_Mm_tellsNumbers 8 1 92), (92, o_ald 0 93), (93, o_push (.int (iI (0))) 94), (94, o_callV M_Mm_counts 8 2 97), (97, o_push (.int (iI (0))) 98), (98, o_iret)]
theorem k_Mm_dropsNow : ∀ x ∈ T_Mm_dropsNow, SO M_Mm_dropsNow x.1 x.2 := by
  obtain ⟨h0, h1, h2, h5, h8, h9, h10, h13, h14, h15, h18, h19⟩ := e0_Mm_dropsNow
  obtain ⟨h20, h23, h26, h27, h30, h31, h32, h35, h36, h37, h38, h39⟩ := e1_Mm_dropsNow
  obtain ⟨h40, h41, h44, h45, h46, h49, h50, h51, h52, h53, h54, h55⟩ := e2_Mm_dropsNow
  obtain ⟨h56, h59, h62, h63, h66, h68, h69, h70, h71, h74, h76, h77⟩ := e3_Mm_dropsNow
  obtain ⟨h78, h79, h80, h81, h82, h85, h88, h89, h92, h93, h94, h97⟩ := e4_Mm_dropsNow
  have h98 := e5_Mm_dropsNow
  refine ac (s_aldn (M := M_Mm_dropsNow) (pc := 0) (k := 0) h0) ?_
  refine ac (s_ildn (M := M_Mm_dropsNow) (pc := 1) (k := 1) h1) ?_
  refine ac (s_callV (M := M_Mm_dropsNow) (pc := 2) (tz_Mm rfl) h2 q_Mm_canDrop wd2212 wd2214 wd97 rfl (T := TX8) (N := 29) rfl) ?_
  refine ac (s_if_ne (M := M_Mm_dropsNow) (pc := 5) h5 (by decide)) ?_
  refine ac (s_aldn (M := M_Mm_dropsNow) (pc := 8) (k := 0) h8) ?_
  refine ac (s_iconst (M := M_Mm_dropsNow) (pc := 9) h9 rfl) ?_
  refine ac (s_callV (M := M_Mm_dropsNow) (pc := 10) (tz_Mm rfl) h10 q_Mm_refuses wd2021 wd2023 wd74 rfl (T := TX8) (N := 29) rfl) ?_
  refine ac (s_iret (M := M_Mm_dropsNow) (pc := 13) h13 rfl) ?_
  refine ac (s_aldn (M := M_Mm_dropsNow) (pc := 14) (k := 0) h14) ?_
  refine ac (s_callV (M := M_Mm_dropsNow) (pc := 15) (tz_Mm rfl) h15 q_Mm_laysNumbers wd2285 wd2287 wd104 rfl (T := TX8) (N := 29) rfl) ?_
  refine ac (s_ildn (M := M_Mm_dropsNow) (pc := 18) (k := 1) h18) ?_
  refine ac (s_aldn (M := M_Mm_dropsNow) (pc := 19) (k := 0) h19) ?_
  refine ac (s_callV (M := M_Mm_dropsNow) (pc := 20) (tz_Mm rfl) h20 q_Mm_bases wd1910 wd1912 wd51 rfl (T := TX8) (N := 29) rfl) ?_
  refine ac (s_icmp_lt (M := M_Mm_dropsNow) (pc := 23) h23 (by decide)) ?_
  refine ac (s_aldn (M := M_Mm_dropsNow) (pc := 26) (k := 0) h26) ?_
  refine ac (s_get (M := M_Mm_dropsNow) (pc := 27) (T := TX8) (N := 29) h27 rfl in_X8 (by decide) wd1690) ?_
  refine ac (s_iconst (M := M_Mm_dropsNow) (pc := 30) h30 rfl) ?_
  refine ac (s_aldn (M := M_Mm_dropsNow) (pc := 31) (k := 0) h31) ?_
  refine ac (s_get (M := M_Mm_dropsNow) (pc := 32) (T := TX8) (N := 29) h32 rfl in_X8 (by decide) wd1690) ?_
  refine ac (s_iconst (M := M_Mm_dropsNow) (pc := 35) h35 rfl) ?_
  refine ac (s_iald (M := M_Mm_dropsNow) (pc := 36) h36) ?_
  refine ac (s_iconst (M := M_Mm_dropsNow) (pc := 37) h37 rfl) ?_
  refine ac (s_isub (M := M_Mm_dropsNow) (pc := 38) h38) ?_
  refine ac (s_iast (M := M_Mm_dropsNow) (pc := 39) h39) ?_
  refine ac (s_aldn (M := M_Mm_dropsNow) (pc := 40) (k := 0) h40) ?_
  refine ac (s_get (M := M_Mm_dropsNow) (pc := 41) (T := TX8) (N := 29) h41 rfl in_X8 (by decide) wd1690) ?_
  refine ac (s_iconst (M := M_Mm_dropsNow) (pc := 44) h44 rfl) ?_
  refine ac (s_aldn (M := M_Mm_dropsNow) (pc := 45) (k := 0) h45) ?_
  refine ac (s_callV (M := M_Mm_dropsNow) (pc := 46) (tz_Mm rfl) h46 q_Mm_many wd1849 wd1851 wd38 rfl (T := TX8) (N := 29) rfl) ?_
  refine ac (s_iconst (M := M_Mm_dropsNow) (pc := 49) h49 rfl) ?_
  refine ac (s_isub (M := M_Mm_dropsNow) (pc := 50) h50) ?_
  refine ac (s_iast (M := M_Mm_dropsNow) (pc := 51) h51) ?_
  refine ac (s_ildn (M := M_Mm_dropsNow) (pc := 52) (k := 1) h52) ?_
  refine ac (s_istn (M := M_Mm_dropsNow) (pc := 53) (k := 2) h53 (by decide)) ?_
  refine ac (s_ildn (M := M_Mm_dropsNow) (pc := 54) (k := 2) h54) ?_
  refine ac (s_aldn (M := M_Mm_dropsNow) (pc := 55) (k := 0) h55) ?_
  refine ac (s_callV (M := M_Mm_dropsNow) (pc := 56) (tz_Mm rfl) h56 q_Mm_many wd1849 wd1851 wd38 rfl (T := TX8) (N := 29) rfl) ?_
  refine ac (s_icmp_ge (M := M_Mm_dropsNow) (pc := 59) h59 (by decide)) ?_
  refine ac (s_aldn (M := M_Mm_dropsNow) (pc := 62) (k := 0) h62) ?_
  refine ac (s_get (M := M_Mm_dropsNow) (pc := 63) (T := TX8) (N := 29) h63 rfl in_X8 (by decide) wd1690) ?_
  refine ac (s_bipush (M := M_Mm_dropsNow) (pc := 66) h66 (by decide)) ?_
  refine ac (s_ildn (M := M_Mm_dropsNow) (pc := 68) (k := 2) h68) ?_
  refine ac (s_iadd (M := M_Mm_dropsNow) (pc := 69) h69) ?_
  refine ac (s_aldn (M := M_Mm_dropsNow) (pc := 70) (k := 0) h70) ?_
  refine ac (s_get (M := M_Mm_dropsNow) (pc := 71) (T := TX8) (N := 29) h71 rfl in_X8 (by decide) wd1690) ?_
  refine ac (s_bipush (M := M_Mm_dropsNow) (pc := 74) h74 (by decide)) ?_
  refine ac (s_ildn (M := M_Mm_dropsNow) (pc := 76) (k := 2) h76) ?_
  refine ac (s_iadd (M := M_Mm_dropsNow) (pc := 77) h77) ?_
  refine ac (s_iconst (M := M_Mm_dropsNow) (pc := 78) h78 rfl) ?_
  refine ac (s_iadd (M := M_Mm_dropsNow) (pc := 79) h79) ?_
  refine ac (s_iald (M := M_Mm_dropsNow) (pc := 80) h80) ?_
  refine ac (s_iast (M := M_Mm_dropsNow) (pc := 81) h81) ?_
  refine ac (s_iinc (M := M_Mm_dropsNow) (pc := 82) h82 rfl (by decide)) ?_
  refine ac (s_goto (M := M_Mm_dropsNow) (pc := 85) h85 (by decide)) ?_
  refine ac (s_aldn (M := M_Mm_dropsNow) (pc := 88) (k := 0) h88) ?_
  refine ac (s_callV (M := M_Mm_dropsNow) (pc := 89) (tz_Mm rfl) h89 q_Mm_tellsNumbers wd2289 wd2291 wd105 rfl (T := TX8) (N := 29) rfl) ?_
  refine ac (s_aldn (M := M_Mm_dropsNow) (pc := 92) (k := 0) h92) ?_
  refine ac (s_iconst (M := M_Mm_dropsNow) (pc := 93) h93 rfl) ?_
  refine ac (s_callV (M := M_Mm_dropsNow) (pc := 94) (tz_Mm rfl) h94 q_Mm_counts wd2025 wd2027 wd75 rfl (T := TX8) (N := 29) rfl) ?_
  refine ac (s_iconst (M := M_Mm_dropsNow) (pc := 97) h97 rfl) ?_
  refine ac (s_iret (M := M_Mm_dropsNow) (pc := 98) h98 rfl) ?_
  exact ac_nil
theorem e0_Mm_setStrict : decode prog_10_method_131_code 0 = .ok (.aload_n 0, 1) ∧ decode prog_10_method_131_code 1 = .ok (.iload_n 1, 1) ∧ decode prog_10_method_131_code 2 = .ok (.i2l, 1) ∧ decode prog_10_method_131_code 3 = .ok (.lconst 0, 1) ∧ decode prog_10_method_131_code 4 = .ok (.lconst 1, 1) ∧ decode prog_10_method_131_code 5 = .ok (.invokestatic 57, 3) ∧ decode prog_10_method_131_code 8 = .ok (.ifCond .eq 7, 3) ∧ decode prog_10_method_131_code 11 = .ok (.iconst 0, 1) ∧ decode prog_10_method_131_code 12 = .ok (.goto 4, 3) ∧ decode prog_10_method_131_code 15 = .ok (.iconst 1, 1) ∧ decode prog_10_method_131_code 16 = .ok (.putfield 1, 3) ∧ decode prog_10_method_131_code 19 = .ok (.aload_n 0, 1) := by decide +kernel
theorem e1_Mm_setStrict : decode prog_10_method_131_code 20 = .ok (.getfield 1, 3) ∧ decode prog_10_method_131_code 23 = .ok (.ifCond .eq 5, 3) ∧ decode prog_10_method_131_code 26 = .ok (.iconst 0, 1) ∧ decode prog_10_method_131_code 27 = .ok (.ireturn, 1) ∧ decode prog_10_method_131_code 28 = .ok (.aload_n 0, 1) ∧ decode prog_10_method_131_code 29 = .ok (.invokevirtual 337, 3) ∧ decode prog_10_method_131_code 32 = .ok (.aload_n 0, 1) ∧ decode prog_10_method_131_code 33 = .ok (.getfield 13, 3) ∧ decode prog_10_method_131_code 36 = .ok (.iconst 2, 1) ∧ decode prog_10_method_131_code 37 = .ok (.iaload, 1) ∧ decode prog_10_method_131_code 38 = .ok (.istore_n 2, 1) ∧ decode prog_10_method_131_code 39 = .ok (.aload_n 0, 1) := by decide +kernel
theorem e2_Mm_setStrict : decode prog_10_method_131_code 40 = .ok (.getfield 13, 3) ∧ decode prog_10_method_131_code 43 = .ok (.iconst 2, 1) ∧ decode prog_10_method_131_code 44 = .ok (.iload_n 1, 1) ∧ decode prog_10_method_131_code 45 = .ok (.iastore, 1) ∧ decode prog_10_method_131_code 46 = .ok (.iload_n 2, 1) ∧ decode prog_10_method_131_code 47 = .ok (.ireturn, 1) := by decide +kernel
def T_Mm_setStrict : TT := [(0, o_ald 0 1), (1, o_ild 1 2), (2, o_i2l 3), (3, o_push (.long (lI 0)) 4), (4, o_push (.long (lI 1)) 5), (5, o_call M_Mm_isIn 3 8), (8, o_if_eq 15 11), (11, o_push (.int (iI (0))) 12), (12, o_goto 16), (15, o_push (.int (iI (1))) 16), (16, o_puti 8 0 19), (19, o_ald 0 20), (20, o_get 8 0 23), (23, o_if_eq 28 26), (26, o_push (.int (iI (0))) 27), (27, o_iret), (28, o_ald 0 29), (29, o_callV M_Mm_keeps 8 1 32), (32, o_ald 0 33), (33, o_get 8 1 36), (36, o_push (.int (iI (2))) 37), (37, o_iald 38), (38, o_ist 2 39), (39, o_ald 0 40), (40, o_get 8 1 43), (43, o_push (.int (iI (2))) 44), (44, o_ild 1 45), (45, o_iast 46), (46, o_ild 2 47), (47, o_iret)]
theorem k_Mm_setStrict : ∀ x ∈ T_Mm_setStrict, SO M_Mm_setStrict x.1 x.2 := by
  obtain ⟨h0, h1, h2, h3, h4, h5, h8, h11, h12, h15, h16, h19⟩ := e0_Mm_setStrict
  obtain ⟨h20, h23, h26, h27, h28, h29, h32, h33, h36, h37, h38, h39⟩ := e1_Mm_setStrict
  obtain ⟨h40, h43, h44, h45, h46, h47⟩ := e2_Mm_setStrict
  refine ac (s_aldn (M := M_Mm_setStrict) (pc := 0) (k := 0) h0) ?_
  refine ac (s_ildn (M := M_Mm_setStrict) (pc := 1) (k := 1) h1) ?_
  refine ac (s_i2l (M := M_Mm_setStrict) (pc := 2) h2) ?_
  refine ac (s_lconst (M := M_Mm_setStrict) (pc := 3) h3 (by decide)) ?_
  refine ac (s_lconst (M := M_Mm_setStrict) (pc := 4) h4 (by decide)) ?_
  refine ac (s_callS (M := M_Mm_setStrict) (pc := 5) (tz_Mm rfl) h5 q_Mm_isIn wd1789 wd1790) ?_
  refine ac (s_if_eq (M := M_Mm_setStrict) (pc := 8) h8 (by decide)) ?_
  refine ac (s_iconst (M := M_Mm_setStrict) (pc := 11) h11 rfl) ?_
  refine ac (s_goto (M := M_Mm_setStrict) (pc := 12) h12 (by decide)) ?_
  refine ac (s_iconst (M := M_Mm_setStrict) (pc := 15) h15 rfl) ?_
  refine ac (s_puti (M := M_Mm_setStrict) (pc := 16) (T := TX8) (N := 29) (ty0 := tyX8) h16 ⟨rfl, in_X8, by decide, wd1689, tyX8_ok, nmX8, (Or.inl rfl)⟩ rfl) ?_
  refine ac (s_aldn (M := M_Mm_setStrict) (pc := 19) (k := 0) h19) ?_
  refine ac (s_get (M := M_Mm_setStrict) (pc := 20) (T := TX8) (N := 29) h20 rfl in_X8 (by decide) wd1689) ?_
  refine ac (s_if_eq (M := M_Mm_setStrict) (pc := 23) h23 (by decide)) ?_
  refine ac (s_iconst (M := M_Mm_setStrict) (pc := 26) h26 rfl) ?_
  refine ac (s_iret (M := M_Mm_setStrict) (pc := 27) h27 rfl) ?_
  refine ac (s_aldn (M := M_Mm_setStrict) (pc := 28) (k := 0) h28) ?_
  refine ac (s_callV (M := M_Mm_setStrict) (pc := 29) (tz_Mm rfl) h29 q_Mm_keeps wd1964 wd1966 wd62 rfl (T := TX8) (N := 29) rfl) ?_
  refine ac (s_aldn (M := M_Mm_setStrict) (pc := 32) (k := 0) h32) ?_
  refine ac (s_get (M := M_Mm_setStrict) (pc := 33) (T := TX8) (N := 29) h33 rfl in_X8 (by decide) wd1690) ?_
  refine ac (s_iconst (M := M_Mm_setStrict) (pc := 36) h36 rfl) ?_
  refine ac (s_iald (M := M_Mm_setStrict) (pc := 37) h37) ?_
  refine ac (s_istn (M := M_Mm_setStrict) (pc := 38) (k := 2) h38 (by decide)) ?_
  refine ac (s_aldn (M := M_Mm_setStrict) (pc := 39) (k := 0) h39) ?_
  refine ac (s_get (M := M_Mm_setStrict) (pc := 40) (T := TX8) (N := 29) h40 rfl in_X8 (by decide) wd1690) ?_
  refine ac (s_iconst (M := M_Mm_setStrict) (pc := 43) h43 rfl) ?_
  refine ac (s_ildn (M := M_Mm_setStrict) (pc := 44) (k := 1) h44) ?_
  refine ac (s_iast (M := M_Mm_setStrict) (pc := 45) h45) ?_
  refine ac (s_ildn (M := M_Mm_setStrict) (pc := 46) (k := 2) h46) ?_
  refine ac (s_iret (M := M_Mm_setStrict) (pc := 47) h47 rfl) ?_
  exact ac_nil
theorem e0_Mm_undo : decode prog_10_method_132_code 0 = .ok (.aload_n 0, 1) ∧ decode prog_10_method_132_code 1 = .ok (.aload_n 0, 1) ∧ decode prog_10_method_132_code 2 = .ok (.getfield 129, 3) ∧ decode prog_10_method_132_code 5 = .ok (.ifCond .le 7, 3) ∧ decode prog_10_method_132_code 8 = .ok (.iconst 0, 1) ∧ decode prog_10_method_132_code 9 = .ok (.goto 4, 3) ∧ decode prog_10_method_132_code 12 = .ok (.iconst 1, 1) ∧ decode prog_10_method_132_code 13 = .ok (.putfield 1, 3) ∧ decode prog_10_method_132_code 16 = .ok (.aload_n 0, 1) ∧ decode prog_10_method_132_code 17 = .ok (.getfield 1, 3) ∧ decode prog_10_method_132_code 20 = .ok (.ifCond .eq 5, 3) ∧ decode prog_10_method_132_code 23 = .ok (.iconst 0, 1) := by decide +kernel
theorem e1_Mm_undo : decode prog_10_method_132_code 24 = .ok (.ireturn, 1) ∧ decode prog_10_method_132_code 25 = .ok (.aload_n 0, 1) ∧ decode prog_10_method_132_code 26 = .ok (.aload_n 0, 1) ∧ decode prog_10_method_132_code 27 = .ok (.getfield 129, 3) ∧ decode prog_10_method_132_code 30 = .ok (.iconst 1, 1) ∧ decode prog_10_method_132_code 31 = .ok (.isub, 1) ∧ decode prog_10_method_132_code 32 = .ok (.putfield 129, 3) ∧ decode prog_10_method_132_code 35 = .ok (.aload_n 0, 1) ∧ decode prog_10_method_132_code 36 = .ok (.getfield 23, 3) ∧ decode prog_10_method_132_code 39 = .ok (.bipush 70, 2) ∧ decode prog_10_method_132_code 41 = .ok (.aload_n 0, 1) ∧ decode prog_10_method_132_code 42 = .ok (.getfield 129, 3) := by decide +kernel
theorem e2_Mm_undo : decode prog_10_method_132_code 45 = .ok (.imul, 1) ∧ decode prog_10_method_132_code 46 = .ok (.aload_n 0, 1) ∧ decode prog_10_method_132_code 47 = .ok (.getfield 13, 3) ∧ decode prog_10_method_132_code 50 = .ok (.iconst 0, 1) ∧ decode prog_10_method_132_code 51 = .ok (.bipush 70, 2) ∧ decode prog_10_method_132_code 53 = .ok (.invokestatic 132, 3) ∧ decode prog_10_method_132_code 56 = .ok (.aload_n 0, 1) ∧ decode prog_10_method_132_code 57 = .ok (.getfield 129, 3) ∧ decode prog_10_method_132_code 60 = .ok (.ireturn, 1) := by decide +kernel
def T_Mm_undo : TT := [(0, o_ald 0 1), (1, o_ald 0 2), (2, o_get 8 5 5), (5, o_if_le 12 8), (8, o_push (.int (iI (0))) 9), (9, o_goto 13), (12, o_push (.int (iI (1))) 13), (13, o_puti 8 0 16), (16, o_ald 0 17), (17, o_get 8 0 20), (20, o_if_eq 25 23), (23, o_push (.int (iI (0))) 24), (24, o_iret), (25, o_ald 0 26), (26, o_ald 0 27), (27, o_get 8 5 30), (30, o_push (.int (iI (1))) 31), (31, o_isub 32), (32, o_puti 8 5 35), (35, o_ald 0 36), (36, o_get 8 4 39), (39, o_push (.int (iI (70))) 41), (41, o_ald 0 42), (42, o_get 8 5 45), (45, o_imul 46), (46, o_ald 0 47), (47, o_get 8 1 50), (50, o_push (.int (iI (0))) 51), (51, o_push (.int (iI (70))) 53), (53, o_call M_Mm_copies 5 56), (56, o_ald 0 57), (57, o_get 8 5 60), (60, o_iret)]
theorem k_Mm_undo : ∀ x ∈ T_Mm_undo, SO M_Mm_undo x.1 x.2 := by
  obtain ⟨h0, h1, h2, h5, h8, h9, h12, h13, h16, h17, h20, h23⟩ := e0_Mm_undo
  obtain ⟨h24, h25, h26, h27, h30, h31, h32, h35, h36, h39, h41, h42⟩ := e1_Mm_undo
  obtain ⟨h45, h46, h47, h50, h51, h53, h56, h57, h60⟩ := e2_Mm_undo
  refine ac (s_aldn (M := M_Mm_undo) (pc := 0) (k := 0) h0) ?_
  refine ac (s_aldn (M := M_Mm_undo) (pc := 1) (k := 0) h1) ?_
  refine ac (s_get (M := M_Mm_undo) (pc := 2) (T := TX8) (N := 29) h2 rfl in_X8 (by decide) wd1694) ?_
  refine ac (s_if_le (M := M_Mm_undo) (pc := 5) h5 (by decide)) ?_
  refine ac (s_iconst (M := M_Mm_undo) (pc := 8) h8 rfl) ?_
  refine ac (s_goto (M := M_Mm_undo) (pc := 9) h9 (by decide)) ?_
  refine ac (s_iconst (M := M_Mm_undo) (pc := 12) h12 rfl) ?_
  refine ac (s_puti (M := M_Mm_undo) (pc := 13) (T := TX8) (N := 29) (ty0 := tyX8) h13 ⟨rfl, in_X8, by decide, wd1689, tyX8_ok, nmX8, (Or.inl rfl)⟩ rfl) ?_
  refine ac (s_aldn (M := M_Mm_undo) (pc := 16) (k := 0) h16) ?_
  refine ac (s_get (M := M_Mm_undo) (pc := 17) (T := TX8) (N := 29) h17 rfl in_X8 (by decide) wd1689) ?_
  refine ac (s_if_eq (M := M_Mm_undo) (pc := 20) h20 (by decide)) ?_
  refine ac (s_iconst (M := M_Mm_undo) (pc := 23) h23 rfl) ?_
  refine ac (s_iret (M := M_Mm_undo) (pc := 24) h24 rfl) ?_
  refine ac (s_aldn (M := M_Mm_undo) (pc := 25) (k := 0) h25) ?_
  refine ac (s_aldn (M := M_Mm_undo) (pc := 26) (k := 0) h26) ?_
  refine ac (s_get (M := M_Mm_undo) (pc := 27) (T := TX8) (N := 29) h27 rfl in_X8 (by decide) wd1694) ?_
  refine ac (s_iconst (M := M_Mm_undo) (pc := 30) h30 rfl) ?_
  refine ac (s_isub (M := M_Mm_undo) (pc := 31) h31) ?_
  refine ac (s_puti (M := M_Mm_undo) (pc := 32) (T := TX8) (N := 29) (ty0 := tyX8) h32 ⟨rfl, in_X8, by decide, wd1694, tyX8_ok, nmX8, (Or.inl rfl)⟩ rfl) ?_
  refine ac (s_aldn (M := M_Mm_undo) (pc := 35) (k := 0) h35) ?_
  refine ac (s_get (M := M_Mm_undo) (pc := 36) (T := TX8) (N := 29) h36 rfl in_X8 (by decide) wd1693) ?_
  refine ac (s_bipush (M := M_Mm_undo) (pc := 39) h39 (by decide)) ?_
  refine ac (s_aldn (M := M_Mm_undo) (pc := 41) (k := 0) h41) ?_
  refine ac (s_get (M := M_Mm_undo) (pc := 42) (T := TX8) (N := 29) h42 rfl in_X8 (by decide) wd1694) ?_
  refine ac (s_imul (M := M_Mm_undo) (pc := 45) h45) ?_
  refine ac (s_aldn (M := M_Mm_undo) (pc := 46) (k := 0) h46) ?_
  refine ac (s_get (M := M_Mm_undo) (pc := 47) (T := TX8) (N := 29) h47 rfl in_X8 (by decide) wd1690) ?_
  refine ac (s_iconst (M := M_Mm_undo) (pc := 50) h50 rfl) ?_
  refine ac (s_bipush (M := M_Mm_undo) (pc := 51) h51 (by decide)) ?_
  refine ac (s_callS (M := M_Mm_undo) (pc := 53) (tz_Mm rfl) h53 q_Mm_copies wd1804 wd1805) ?_
  refine ac (s_aldn (M := M_Mm_undo) (pc := 56) (k := 0) h56) ?_
  refine ac (s_get (M := M_Mm_undo) (pc := 57) (T := TX8) (N := 29) h57 rfl in_X8 (by decide) wd1694) ?_
  refine ac (s_iret (M := M_Mm_undo) (pc := 60) h60 rfl) ?_
  exact ac_nil
theorem e0_Mm_printRegister : decode prog_10_method_135_code 0 = .ok (.aload_n 0, 1) ∧ decode prog_10_method_135_code 1 = .ok (.iload_n 1, 1) ∧ decode prog_10_method_135_code 2 = .ok (.invokevirtual 368, 3) ∧ decode prog_10_method_135_code 5 = .ok (.ifCond .ne 5, 3) ∧ decode prog_10_method_135_code 8 = .ok (.iconst 0, 1) ∧ decode prog_10_method_135_code 9 = .ok (.ireturn, 1) ∧ decode prog_10_method_135_code 10 = .ok (.aload_n 0, 1) ∧ decode prog_10_method_135_code 11 = .ok (.iconst 0, 1) ∧ decode prog_10_method_135_code 12 = .ok (.putfield 437, 3) ∧ decode prog_10_method_135_code 15 = .ok (.aload_n 0, 1) ∧ decode prog_10_method_135_code 16 = .ok (.bipush 97, 2) ∧ decode prog_10_method_135_code 18 = .ok (.iload_n 1, 1) := by decide +kernel
theorem e1_Mm_printRegister : decode prog_10_method_135_code 19 = .ok (.iadd, 1) ∧ decode prog_10_method_135_code 20 = .ok (.invokevirtual 440, 3) ∧ decode prog_10_method_135_code 23 = .ok (.aload_n 0, 1) ∧ decode prog_10_method_135_code 24 = .ok (.bipush 61, 2) ∧ decode prog_10_method_135_code 26 = .ok (.invokevirtual 440, 3) ∧ decode prog_10_method_135_code 29 = .ok (.aload_n 0, 1) ∧ decode prog_10_method_135_code 30 = .ok (.bipush 40, 2) ∧ decode prog_10_method_135_code 32 = .ok (.invokevirtual 440, 3) ∧ decode prog_10_method_135_code 35 = .ok (.iconst 0, 1) ∧ decode prog_10_method_135_code 36 = .ok (.istore_n 2, 1) ∧ decode prog_10_method_135_code 37 = .ok (.iload_n 2, 1) ∧ decode prog_10_method_135_code 38 = .ok (.aload_n 0, 1) := by decide +kernel
theorem e2_Mm_printRegister : decode prog_10_method_135_code 39 = .ok (.invokevirtual 61, 3) ∧ decode prog_10_method_135_code 42 = .ok (.if_icmp .ge 30, 3) ∧ decode prog_10_method_135_code 45 = .ok (.iload_n 2, 1) ∧ decode prog_10_method_135_code 46 = .ok (.ifCond .le 9, 3) ∧ decode prog_10_method_135_code 49 = .ok (.aload_n 0, 1) ∧ decode prog_10_method_135_code 50 = .ok (.bipush 44, 2) ∧ decode prog_10_method_135_code 52 = .ok (.invokevirtual 440, 3) ∧ decode prog_10_method_135_code 55 = .ok (.aload_n 0, 1) ∧ decode prog_10_method_135_code 56 = .ok (.aload_n 0, 1) ∧ decode prog_10_method_135_code 57 = .ok (.iload_n 1, 1) ∧ decode prog_10_method_135_code 58 = .ok (.iload_n 2, 1) ∧ decode prog_10_method_135_code 59 = .ok (.invokevirtual 86, 3) := by decide +kernel
theorem e3_Mm_printRegister : decode prog_10_method_135_code 62 = .ok (.i2l, 1) ∧ decode prog_10_method_135_code 63 = .ok (.invokevirtual 447, 3) ∧ decode prog_10_method_135_code 66 = .ok (.iinc 2 1, 3) ∧ decode prog_10_method_135_code 69 = .ok (.goto (-32), 3) ∧ decode prog_10_method_135_code 72 = .ok (.aload_n 0, 1) ∧ decode prog_10_method_135_code 73 = .ok (.bipush 41, 2) ∧ decode prog_10_method_135_code 75 = .ok (.invokevirtual 440, 3) ∧ decode prog_10_method_135_code 78 = .ok (.aload_n 0, 1) ∧ decode prog_10_method_135_code 79 = .ok (.bipush 61, 2) ∧ decode prog_10_method_135_code 81 = .ok (.invokevirtual 440, 3) ∧ decode prog_10_method_135_code 84 = .ok (.aload_n 0, 1) ∧ decode prog_10_method_135_code 85 = .ok (.aload_n 0, 1) := by decide +kernel
theorem e4_Mm_printRegister : decode prog_10_method_135_code 86 = .ok (.iload_n 1, 1) ∧ decode prog_10_method_135_code 87 = .ok (.invokevirtual 104, 3) ∧ decode prog_10_method_135_code 90 = .ok (.invokevirtual 447, 3) ∧ decode prog_10_method_135_code 93 = .ok (.aload_n 0, 1) ∧ decode prog_10_method_135_code 94 = .ok (.iload_n 1, 1) ∧ decode prog_10_method_135_code 95 = .ok (.invokevirtual 126, 3) ∧ decode prog_10_method_135_code 98 = .ok (.ifCond .ne 9, 3) ∧ decode prog_10_method_135_code 101 = .ok (.aload_n 0, 1) ∧ decode prog_10_method_135_code 102 = .ok (.bipush 33, 2) ∧ decode prog_10_method_135_code 104 = .ok (.invokevirtual 440, 3) ∧ decode prog_10_method_135_code 107 = .ok (.aload_n 0, 1) ∧ decode prog_10_method_135_code 108 = .ok (.getfield 437, 3) := by decide +kernel
theorem e5_Mm_printRegister : decode prog_10_method_135_code 111 = .ok (.ireturn, 1) := by decide +kernel
def T_Mm_printRegister : TT := [(0, o_ald 0 1), (1, o_ild 1 2), (2, o_callV M_Mm_mayRegister 8 2 5), (5, o_if_ne 10 8), (8, o_push (.int (iI (0))) 9), (9, o_iret), (10, o_ald 0 11), (11, o_push (.int (iI (0))) 12), (12, o_puti 8 28 15), (15, o_ald 0 16), (16, o_push (.int (iI (97))) 18), (18, o_ild 1 19), (19, o_iadd 20), (20, o_callV M_Mm_writes 8 2 23), (23, o_ald 0 24), (24, o_push (.int (iI (61))) 26), (26, o_callV M_Mm_writes 8 2 29), (29, o_ald 0 30), (30, o_push (.int (iI (40))) 32), (32, o_callV M_Mm_writes 8 2 35), (35, o_push (.int (iI (0))) 36), (36, o_ist 2 37), (37, o_ild 2 38), (38, o_ald 0 39), (39, o_callV M_Mm_many 8 1 42), (42, o_icmp_ge 72 45), (45, o_ild 2 46), (46, o_if_le 55 49), (49, o_ald 0 50), (50, o_push (.int (iI (44))) 52), (52, o_callV M_Mm_writes 8 2 55), (55, o_ald 0 56), (56, o_ald 0 57), (57, o_ild 1 58), (58, o_ild 2 59), (59, o_callV M_Mm_restOf 8 3 62), (62, o_i2l 63), (63, o_callV M_Mm_writesNumber 8 2 66), (66, o_iinc 2 (iI (1)) 69), (69, o_goto 37), (72, o_ald 0 73), (73, o_push (.int (iI (41))) 75), (75, o_callV M_Mm_writes 8 2 78), (78, o_ald 0 79), (79, o_push (.int (iI (61))) 81), (81, o_callV M_Mm_writes 8 2 84), (84, o_ald 0 85), (85, o_ald 0 86), (86, o_ild 1 87), (87, o_callV M_Mm_numberOf 8 2 90), (90, o_callV M_Mm_writesNumber 8 2 93), (93, o_ald 0 94), (94, o_ild 1 95), (95, o_callV M_Mm_soundNow 8 2 98), (98, o_if_ne 107 101), (101, o_ald 0 102), (102, o_push (.int (iI (33))) 104), (104, o_callV M_Mm_writes 8 2 107), (107, o_ald 0 108), (108, o_get 8 28 111), (111, o_iret)]
theorem k_Mm_printRegister : ∀ x ∈ T_Mm_printRegister, SO M_Mm_printRegister x.1 x.2 := by
  obtain ⟨h0, h1, h2, h5, h8, h9, h10, h11, h12, h15, h16, h18⟩ := e0_Mm_printRegister
  obtain ⟨h19, h20, h23, h24, h26, h29, h30, h32, h35, h36, h37, h38⟩ := e1_Mm_printRegister
  obtain ⟨h39, h42, h45, h46, h49, h50, h52, h55, h56, h57, h58, h59⟩ := e2_Mm_printRegister
  obtain ⟨h62, h63, h66, h69, h72, h73, h75, h78, h79, h81, h84, h85⟩ := e3_Mm_printRegister
  obtain ⟨h86, h87, h90, h93, h94, h95, h98, h101, h102, h104, h107, h108⟩ := e4_Mm_printRegister
  have h111 := e5_Mm_printRegister
  refine ac (s_aldn (M := M_Mm_printRegister) (pc := 0) (k := 0) h0) ?_
  refine ac (s_ildn (M := M_Mm_printRegister) (pc := 1) (k := 1) h1) ?_
  refine ac (s_callV (M := M_Mm_printRegister) (pc := 2) (tz_Mm rfl) h2 q_Mm_mayRegister wd2127 wd2129 wd90 rfl (T := TX8) (N := 29) rfl) ?_
  refine ac (s_if_ne (M := M_Mm_printRegister) (pc := 5) h5 (by decide)) ?_
  refine ac (s_iconst (M := M_Mm_printRegister) (pc := 8) h8 rfl) ?_
  refine ac (s_iret (M := M_Mm_printRegister) (pc := 9) h9 rfl) ?_
  refine ac (s_aldn (M := M_Mm_printRegister) (pc := 10) (k := 0) h10) ?_
  refine ac (s_iconst (M := M_Mm_printRegister) (pc := 11) h11 rfl) ?_
  refine ac (s_puti (M := M_Mm_printRegister) (pc := 12) (T := TX8) (N := 29) (ty0 := tyX8) h12 ⟨rfl, in_X8, by decide, wd1717, tyX8_ok, nmX8, (Or.inl rfl)⟩ rfl) ?_
  refine ac (s_aldn (M := M_Mm_printRegister) (pc := 15) (k := 0) h15) ?_
  refine ac (s_bipush (M := M_Mm_printRegister) (pc := 16) h16 (by decide)) ?_
  refine ac (s_ildn (M := M_Mm_printRegister) (pc := 18) (k := 1) h18) ?_
  refine ac (s_iadd (M := M_Mm_printRegister) (pc := 19) h19) ?_
  refine ac (s_callV (M := M_Mm_printRegister) (pc := 20) (tz_Mm rfl) h20 q_Mm_writes wd2313 wd2315 wd107 rfl (T := TX8) (N := 29) rfl) ?_
  refine ac (s_aldn (M := M_Mm_printRegister) (pc := 23) (k := 0) h23) ?_
  refine ac (s_bipush (M := M_Mm_printRegister) (pc := 24) h24 (by decide)) ?_
  refine ac (s_callV (M := M_Mm_printRegister) (pc := 26) (tz_Mm rfl) h26 q_Mm_writes wd2313 wd2315 wd107 rfl (T := TX8) (N := 29) rfl) ?_
  refine ac (s_aldn (M := M_Mm_printRegister) (pc := 29) (k := 0) h29) ?_
  refine ac (s_bipush (M := M_Mm_printRegister) (pc := 30) h30 (by decide)) ?_
  refine ac (s_callV (M := M_Mm_printRegister) (pc := 32) (tz_Mm rfl) h32 q_Mm_writes wd2313 wd2315 wd107 rfl (T := TX8) (N := 29) rfl) ?_
  refine ac (s_iconst (M := M_Mm_printRegister) (pc := 35) h35 rfl) ?_
  refine ac (s_istn (M := M_Mm_printRegister) (pc := 36) (k := 2) h36 (by decide)) ?_
  refine ac (s_ildn (M := M_Mm_printRegister) (pc := 37) (k := 2) h37) ?_
  refine ac (s_aldn (M := M_Mm_printRegister) (pc := 38) (k := 0) h38) ?_
  refine ac (s_callV (M := M_Mm_printRegister) (pc := 39) (tz_Mm rfl) h39 q_Mm_many wd1849 wd1851 wd38 rfl (T := TX8) (N := 29) rfl) ?_
  refine ac (s_icmp_ge (M := M_Mm_printRegister) (pc := 42) h42 (by decide)) ?_
  refine ac (s_ildn (M := M_Mm_printRegister) (pc := 45) (k := 2) h45) ?_
  refine ac (s_if_le (M := M_Mm_printRegister) (pc := 46) h46 (by decide)) ?_
  refine ac (s_aldn (M := M_Mm_printRegister) (pc := 49) (k := 0) h49) ?_
  refine ac (s_bipush (M := M_Mm_printRegister) (pc := 50) h50 (by decide)) ?_
  refine ac (s_callV (M := M_Mm_printRegister) (pc := 52) (tz_Mm rfl) h52 q_Mm_writes wd2313 wd2315 wd107 rfl (T := TX8) (N := 29) rfl) ?_
  refine ac (s_aldn (M := M_Mm_printRegister) (pc := 55) (k := 0) h55) ?_
  refine ac (s_aldn (M := M_Mm_printRegister) (pc := 56) (k := 0) h56) ?_
  refine ac (s_ildn (M := M_Mm_printRegister) (pc := 57) (k := 1) h57) ?_
  refine ac (s_ildn (M := M_Mm_printRegister) (pc := 58) (k := 2) h58) ?_
  refine ac (s_callV (M := M_Mm_printRegister) (pc := 59) (tz_Mm rfl) h59 q_Mm_restOf wd1984 wd1986 wd67 rfl (T := TX8) (N := 29) rfl) ?_
  refine ac (s_i2l (M := M_Mm_printRegister) (pc := 62) h62) ?_
  refine ac (s_callV (M := M_Mm_printRegister) (pc := 63) (tz_Mm rfl) h63 q_Mm_writesNumber wd2317 wd2319 wd108 rfl (T := TX8) (N := 29) rfl) ?_
  refine ac (s_iinc (M := M_Mm_printRegister) (pc := 66) h66 rfl (by decide)) ?_
  refine ac (s_goto (M := M_Mm_printRegister) (pc := 69) h69 (by decide)) ?_
  refine ac (s_aldn (M := M_Mm_printRegister) (pc := 72) (k := 0) h72) ?_
  refine ac (s_bipush (M := M_Mm_printRegister) (pc := 73) h73 (by decide)) ?_
  refine ac (s_callV (M := M_Mm_printRegister) (pc := 75) (tz_Mm rfl) h75 q_Mm_writes wd2313 wd2315 wd107 rfl (T := TX8) (N := 29) rfl) ?_
  refine ac (s_aldn (M := M_Mm_printRegister) (pc := 78) (k := 0) h78) ?_
  refine ac (s_bipush (M := M_Mm_printRegister) (pc := 79) h79 (by decide)) ?_
  refine ac (s_callV (M := M_Mm_printRegister) (pc := 81) (tz_Mm rfl) h81 q_Mm_writes wd2313 wd2315 wd107 rfl (T := TX8) (N := 29) rfl) ?_
  refine ac (s_aldn (M := M_Mm_printRegister) (pc := 84) (k := 0) h84) ?_
  refine ac (s_aldn (M := M_Mm_printRegister) (pc := 85) (k := 0) h85) ?_
  refine ac (s_ildn (M := M_Mm_printRegister) (pc := 86) (k := 1) h86) ?_
  refine ac (s_callV (M := M_Mm_printRegister) (pc := 87) (tz_Mm rfl) h87 q_Mm_numberOf wd1992 wd1994 wd69 rfl (T := TX8) (N := 29) rfl) ?_
  refine ac (s_callV (M := M_Mm_printRegister) (pc := 90) (tz_Mm rfl) h90 q_Mm_writesNumber wd2317 wd2319 wd108 rfl (T := TX8) (N := 29) rfl) ?_
  refine ac (s_aldn (M := M_Mm_printRegister) (pc := 93) (k := 0) h93) ?_
  refine ac (s_ildn (M := M_Mm_printRegister) (pc := 94) (k := 1) h94) ?_
  refine ac (s_callV (M := M_Mm_printRegister) (pc := 95) (tz_Mm rfl) h95 q_Mm_soundNow wd2013 wd2015 wd72 rfl (T := TX8) (N := 29) rfl) ?_
  refine ac (s_if_ne (M := M_Mm_printRegister) (pc := 98) h98 (by decide)) ?_
  refine ac (s_aldn (M := M_Mm_printRegister) (pc := 101) (k := 0) h101) ?_
  refine ac (s_bipush (M := M_Mm_printRegister) (pc := 102) h102 (by decide)) ?_
  refine ac (s_callV (M := M_Mm_printRegister) (pc := 104) (tz_Mm rfl) h104 q_Mm_writes wd2313 wd2315 wd107 rfl (T := TX8) (N := 29) rfl) ?_
  refine ac (s_aldn (M := M_Mm_printRegister) (pc := 107) (k := 0) h107) ?_
  refine ac (s_get (M := M_Mm_printRegister) (pc := 108) (T := TX8) (N := 29) h108 rfl in_X8 (by decide) wd1717) ?_
  refine ac (s_iret (M := M_Mm_printRegister) (pc := 111) h111 rfl) ?_
  exact ac_nil
theorem e0_Mm_writes : decode prog_10_method_133_code 0 = .ok (.aload_n 0, 1) ∧ decode prog_10_method_133_code 1 = .ok (.getfield 52, 3) ∧ decode prog_10_method_133_code 4 = .ok (.aload_n 0, 1) ∧ decode prog_10_method_133_code 5 = .ok (.getfield 437, 3) ∧ decode prog_10_method_133_code 8 = .ok (.iload_n 1, 1) ∧ decode prog_10_method_133_code 9 = .ok (.i2b, 1) ∧ decode prog_10_method_133_code 10 = .ok (.bastore, 1) ∧ decode prog_10_method_133_code 11 = .ok (.aload_n 0, 1) ∧ decode prog_10_method_133_code 12 = .ok (.aload_n 0, 1) ∧ decode prog_10_method_133_code 13 = .ok (.getfield 437, 3) ∧ decode prog_10_method_133_code 16 = .ok (.iconst 1, 1) ∧ decode prog_10_method_133_code 17 = .ok (.iadd, 1) := by decide +kernel
theorem e1_Mm_writes : decode prog_10_method_133_code 18 = .ok (.putfield 437, 3) ∧ decode prog_10_method_133_code 21 = .ok (.return_, 1) := by decide +kernel
def T_Mm_writes : TT := [(0, o_ald 0 1), (1, o_get 8 27 4), (4, o_ald 0 5), (5, o_get 8 28 8), (8, o_ild 1 9), (9, o_i2b 10), (10, o_bast 11), (11, o_ald 0 12), (12, o_ald 0 13), (13, o_get 8 28 16), (16, o_push (.int (iI (1))) 17), (17, o_iadd 18), (18, o_puti 8 28 21), (21, o_vret)]
theorem k_Mm_writes : ∀ x ∈ T_Mm_writes, SO M_Mm_writes x.1 x.2 := by
  obtain ⟨h0, h1, h4, h5, h8, h9, h10, h11, h12, h13, h16, h17⟩ := e0_Mm_writes
  obtain ⟨h18, h21⟩ := e1_Mm_writes
  refine ac (s_aldn (M := M_Mm_writes) (pc := 0) (k := 0) h0) ?_
  refine ac (s_get (M := M_Mm_writes) (pc := 1) (T := TX8) (N := 29) h1 rfl in_X8 (by decide) wd1716) ?_
  refine ac (s_aldn (M := M_Mm_writes) (pc := 4) (k := 0) h4) ?_
  refine ac (s_get (M := M_Mm_writes) (pc := 5) (T := TX8) (N := 29) h5 rfl in_X8 (by decide) wd1717) ?_
  refine ac (s_ildn (M := M_Mm_writes) (pc := 8) (k := 1) h8) ?_
  refine ac (s_i2b (M := M_Mm_writes) (pc := 9) h9) ?_
  refine ac (s_bast (M := M_Mm_writes) (pc := 10) h10) ?_
  refine ac (s_aldn (M := M_Mm_writes) (pc := 11) (k := 0) h11) ?_
  refine ac (s_aldn (M := M_Mm_writes) (pc := 12) (k := 0) h12) ?_
  refine ac (s_get (M := M_Mm_writes) (pc := 13) (T := TX8) (N := 29) h13 rfl in_X8 (by decide) wd1717) ?_
  refine ac (s_iconst (M := M_Mm_writes) (pc := 16) h16 rfl) ?_
  refine ac (s_iadd (M := M_Mm_writes) (pc := 17) h17) ?_
  refine ac (s_puti (M := M_Mm_writes) (pc := 18) (T := TX8) (N := 29) (ty0 := tyX8) h18 ⟨rfl, in_X8, by decide, wd1717, tyX8_ok, nmX8, (Or.inl rfl)⟩ rfl) ?_
  refine ac (s_vret (M := M_Mm_writes) (pc := 21) h21 rfl) ?_
  exact ac_nil
theorem e0_Mm_writesNumber : decode prog_10_method_134_code 0 = .ok (.lload_n 1, 1) ∧ decode prog_10_method_134_code 1 = .ok (.lconst 0, 1) ∧ decode prog_10_method_134_code 2 = .ok (.lcmp, 1) ∧ decode prog_10_method_134_code 3 = .ok (.ifCond .ge 9, 3) ∧ decode prog_10_method_134_code 6 = .ok (.aload_n 0, 1) ∧ decode prog_10_method_134_code 7 = .ok (.bipush 45, 2) ∧ decode prog_10_method_134_code 9 = .ok (.invokevirtual 440, 3) ∧ decode prog_10_method_134_code 12 = .ok (.lload_n 1, 1) ∧ decode prog_10_method_134_code 13 = .ok (.lconst 0, 1) ∧ decode prog_10_method_134_code 14 = .ok (.lcmp, 1) ∧ decode prog_10_method_134_code 15 = .ok (.ifCond .ge 8, 3) ∧ decode prog_10_method_134_code 18 = .ok (.lload_n 1, 1) := by decide +kernel
theorem e1_Mm_writesNumber : decode prog_10_method_134_code 19 = .ok (.lneg, 1) ∧ decode prog_10_method_134_code 20 = .ok (.goto 4, 3) ∧ decode prog_10_method_134_code 23 = .ok (.lload_n 1, 1) ∧ decode prog_10_method_134_code 24 = .ok (.lstore_n 3, 1) ∧ decode prog_10_method_134_code 25 = .ok (.lconst 1, 1) ∧ decode prog_10_method_134_code 26 = .ok (.lstore 5, 2) ∧ decode prog_10_method_134_code 28 = .ok (.lload_n 3, 1) ∧ decode prog_10_method_134_code 29 = .ok (.lload 5, 2) ∧ decode prog_10_method_134_code 31 = .ok (.ldiv, 1) ∧ decode prog_10_method_134_code 32 = .ok (.ldc2_w 443, 3) ∧ decode prog_10_method_134_code 35 = .ok (.lcmp, 1) ∧ decode prog_10_method_134_code 36 = .ok (.ifCond .le 14, 3) := by decide +kernel
theorem e2_Mm_writesNumber : decode prog_10_method_134_code 39 = .ok (.lload 5, 2) ∧ decode prog_10_method_134_code 41 = .ok (.ldc2_w 445, 3) ∧ decode prog_10_method_134_code 44 = .ok (.lmul, 1) ∧ decode prog_10_method_134_code 45 = .ok (.lstore 5, 2) ∧ decode prog_10_method_134_code 47 = .ok (.goto (-19), 3) ∧ decode prog_10_method_134_code 50 = .ok (.lload 5, 2) ∧ decode prog_10_method_134_code 52 = .ok (.lconst 0, 1) ∧ decode prog_10_method_134_code 53 = .ok (.lcmp, 1) ∧ decode prog_10_method_134_code 54 = .ok (.ifCond .le 30, 3) ∧ decode prog_10_method_134_code 57 = .ok (.aload_n 0, 1) ∧ decode prog_10_method_134_code 58 = .ok (.bipush 48, 2) ∧ decode prog_10_method_134_code 60 = .ok (.lload_n 3, 1) := by decide +kernel
theorem e3_Mm_writesNumber : decode prog_10_method_134_code 61 = .ok (.lload 5, 2) ∧ decode prog_10_method_134_code 63 = .ok (.ldiv, 1) ∧ decode prog_10_method_134_code 64 = .ok (.ldc2_w 445, 3) ∧ decode prog_10_method_134_code 67 = .ok (.lrem, 1) ∧ decode prog_10_method_134_code 68 = .ok (.l2i, 1) ∧ decode prog_10_method_134_code 69 = .ok (.iadd, 1) ∧ decode prog_10_method_134_code 70 = .ok (.invokevirtual 440, 3) ∧ decode prog_10_method_134_code 73 = .ok (.lload 5, 2) ∧ decode prog_10_method_134_code 75 = .ok (.ldc2_w 445, 3) ∧ decode prog_10_method_134_code 78 = .ok (.ldiv, 1) ∧ decode prog_10_method_134_code 79 = .ok (.lstore 5, 2) ∧ decode prog_10_method_134_code 81 = .ok (.goto (-31), 3) := by decide +kernel
theorem e4_Mm_writesNumber : decode prog_10_method_134_code 84 = .ok (.return_, 1) := by decide +kernel
def T_Mm_writesNumber : TT := [(0, o_lld 1 1), (1, o_push (.long (lI 0)) 2), (2, o_lc_ge 12 6), (6, o_ald 0 7), (7, o_push (.int (iI (45))) 9), (9, o_callV M_Mm_writes 8 2 12), (12, o_lld 1 13), (13, o_push (.long (lI 0)) 14), (14, o_lc_ge 23 18), (18, o_lld 1 19), (19, o_lneg 20), (20, o_goto 24), (23, o_lld 1 24), (24, o_lst 3 25), (25, o_push (.long (lI 1)) 26), (26, o_lst 5 28), (28, o_lld 3 29), (29, o_lld 5 31), (31, o_ldiv 32), (32, o_push (.long (lI (9))) 35), (35, o_lc_le 50 39), (39, o_lld 5 41), (41, o_push (.long (lI (10))) 44), (44, o_lmul 45), (45, o_lst 5 47), (47, o_goto 28), (50, o_lld 5 52), (52, o_push (.long (lI 0)) 53), (53, o_lc_le 84 57), (57, o_ald 0 58), (58, o_push (.int (iI (48))) 60), (60, o_lld 3 61), (61, o_lld 5 63), (63, o_ldiv 64), (64, o_push (.long (lI (10))) 67), (67, o_lrem 68), (68, o_l2i 69), (69, o_iadd 70), (70, o_callV M_Mm_writes 8 2 73), (73, o_lld 5 75), (75, o_push (.long (lI (10))) 78), (78, o_ldiv 79), (79, o_lst 5 81), (81, o_goto 50), (84, o_vret)]
theorem k_Mm_writesNumber : ∀ x ∈ T_Mm_writesNumber, SO M_Mm_writesNumber x.1 x.2 := by
  obtain ⟨h0, h1, h2, h3, h6, h7, h9, h12, h13, h14, h15, h18⟩ := e0_Mm_writesNumber
  obtain ⟨h19, h20, h23, h24, h25, h26, h28, h29, h31, h32, h35, h36⟩ := e1_Mm_writesNumber
  obtain ⟨h39, h41, h44, h45, h47, h50, h52, h53, h54, h57, h58, h60⟩ := e2_Mm_writesNumber
  obtain ⟨h61, h63, h64, h67, h68, h69, h70, h73, h75, h78, h79, h81⟩ := e3_Mm_writesNumber
  have h84 := e4_Mm_writesNumber
  refine ac (s_lldn (M := M_Mm_writesNumber) (pc := 0) (k := 1) h0) ?_
  refine ac (s_lconst (M := M_Mm_writesNumber) (pc := 1) h1 (by decide)) ?_
  refine ac (s_lc_ge (M := M_Mm_writesNumber) (pc := 2) h2 h3 (by decide)) ?_
  refine ac (s_aldn (M := M_Mm_writesNumber) (pc := 6) (k := 0) h6) ?_
  refine ac (s_bipush (M := M_Mm_writesNumber) (pc := 7) h7 (by decide)) ?_
  refine ac (s_callV (M := M_Mm_writesNumber) (pc := 9) (tz_Mm rfl) h9 q_Mm_writes wd2313 wd2315 wd107 rfl (T := TX8) (N := 29) rfl) ?_
  refine ac (s_lldn (M := M_Mm_writesNumber) (pc := 12) (k := 1) h12) ?_
  refine ac (s_lconst (M := M_Mm_writesNumber) (pc := 13) h13 (by decide)) ?_
  refine ac (s_lc_ge (M := M_Mm_writesNumber) (pc := 14) h14 h15 (by decide)) ?_
  refine ac (s_lldn (M := M_Mm_writesNumber) (pc := 18) (k := 1) h18) ?_
  refine ac (s_lneg (M := M_Mm_writesNumber) (pc := 19) h19) ?_
  refine ac (s_goto (M := M_Mm_writesNumber) (pc := 20) h20 (by decide)) ?_
  refine ac (s_lldn (M := M_Mm_writesNumber) (pc := 23) (k := 1) h23) ?_
  refine ac (s_lstn (M := M_Mm_writesNumber) (pc := 24) (k := 3) h24 (by decide)) ?_
  refine ac (s_lconst (M := M_Mm_writesNumber) (pc := 25) h25 (by decide)) ?_
  refine ac (s_lst (M := M_Mm_writesNumber) (pc := 26) h26 (by decide)) ?_
  refine ac (s_lldn (M := M_Mm_writesNumber) (pc := 28) (k := 3) h28) ?_
  refine ac (s_lld (M := M_Mm_writesNumber) (pc := 29) h29) ?_
  refine ac (s_ldiv (M := M_Mm_writesNumber) (pc := 31) h31) ?_
  refine ac (s_ldc2 (M := M_Mm_writesNumber) (pc := 32) h32 wd2321) ?_
  refine ac (s_lc_le (M := M_Mm_writesNumber) (pc := 35) h35 h36 (by decide)) ?_
  refine ac (s_lld (M := M_Mm_writesNumber) (pc := 39) h39) ?_
  refine ac (s_ldc2 (M := M_Mm_writesNumber) (pc := 41) h41 wd2322) ?_
  refine ac (s_lmul (M := M_Mm_writesNumber) (pc := 44) h44) ?_
  refine ac (s_lst (M := M_Mm_writesNumber) (pc := 45) h45 (by decide)) ?_
  refine ac (s_goto (M := M_Mm_writesNumber) (pc := 47) h47 (by decide)) ?_
  refine ac (s_lld (M := M_Mm_writesNumber) (pc := 50) h50) ?_
  refine ac (s_lconst (M := M_Mm_writesNumber) (pc := 52) h52 (by decide)) ?_
  refine ac (s_lc_le (M := M_Mm_writesNumber) (pc := 53) h53 h54 (by decide)) ?_
  refine ac (s_aldn (M := M_Mm_writesNumber) (pc := 57) (k := 0) h57) ?_
  refine ac (s_bipush (M := M_Mm_writesNumber) (pc := 58) h58 (by decide)) ?_
  refine ac (s_lldn (M := M_Mm_writesNumber) (pc := 60) (k := 3) h60) ?_
  refine ac (s_lld (M := M_Mm_writesNumber) (pc := 61) h61) ?_
  refine ac (s_ldiv (M := M_Mm_writesNumber) (pc := 63) h63) ?_
  refine ac (s_ldc2 (M := M_Mm_writesNumber) (pc := 64) h64 wd2322) ?_
  refine ac (s_lrem (M := M_Mm_writesNumber) (pc := 67) h67) ?_
  refine ac (s_l2i (M := M_Mm_writesNumber) (pc := 68) h68) ?_
  refine ac (s_iadd (M := M_Mm_writesNumber) (pc := 69) h69) ?_
  refine ac (s_callV (M := M_Mm_writesNumber) (pc := 70) (tz_Mm rfl) h70 q_Mm_writes wd2313 wd2315 wd107 rfl (T := TX8) (N := 29) rfl) ?_
  refine ac (s_lld (M := M_Mm_writesNumber) (pc := 73) h73) ?_
  refine ac (s_ldc2 (M := M_Mm_writesNumber) (pc := 75) h75 wd2322) ?_
  refine ac (s_ldiv (M := M_Mm_writesNumber) (pc := 78) h78) ?_
  refine ac (s_lst (M := M_Mm_writesNumber) (pc := 79) h79 (by decide)) ?_
  refine ac (s_goto (M := M_Mm_writesNumber) (pc := 81) h81 (by decide)) ?_
  refine ac (s_vret (M := M_Mm_writesNumber) (pc := 84) h84 rfl) ?_
  exact ac_nil
theorem e0_Mm_printModuli : decode prog_10_method_136_code 0 = .ok (.aload_n 0, 1) ∧ decode prog_10_method_136_code 1 = .ok (.iconst 0, 1) ∧ decode prog_10_method_136_code 2 = .ok (.putfield 1, 3) ∧ decode prog_10_method_136_code 5 = .ok (.aload_n 0, 1) ∧ decode prog_10_method_136_code 6 = .ok (.iconst 0, 1) ∧ decode prog_10_method_136_code 7 = .ok (.putfield 437, 3) ∧ decode prog_10_method_136_code 10 = .ok (.iconst 0, 1) ∧ decode prog_10_method_136_code 11 = .ok (.istore_n 1, 1) ∧ decode prog_10_method_136_code 12 = .ok (.iload_n 1, 1) ∧ decode prog_10_method_136_code 13 = .ok (.aload_n 0, 1) ∧ decode prog_10_method_136_code 14 = .ok (.invokevirtual 61, 3) ∧ decode prog_10_method_136_code 17 = .ok (.if_icmp .ge 43, 3) := by decide +kernel
theorem e1_Mm_printModuli : decode prog_10_method_136_code 20 = .ok (.iload_n 1, 1) ∧ decode prog_10_method_136_code 21 = .ok (.ifCond .le 9, 3) ∧ decode prog_10_method_136_code 24 = .ok (.aload_n 0, 1) ∧ decode prog_10_method_136_code 25 = .ok (.bipush 32, 2) ∧ decode prog_10_method_136_code 27 = .ok (.invokevirtual 440, 3) ∧ decode prog_10_method_136_code 30 = .ok (.aload_n 0, 1) ∧ decode prog_10_method_136_code 31 = .ok (.aload_n 0, 1) ∧ decode prog_10_method_136_code 32 = .ok (.iload_n 1, 1) ∧ decode prog_10_method_136_code 33 = .ok (.invokevirtual 65, 3) ∧ decode prog_10_method_136_code 36 = .ok (.i2l, 1) ∧ decode prog_10_method_136_code 37 = .ok (.invokevirtual 447, 3) ∧ decode prog_10_method_136_code 40 = .ok (.iload_n 1, 1) := by decide +kernel
theorem e2_Mm_printModuli : decode prog_10_method_136_code 41 = .ok (.aload_n 0, 1) ∧ decode prog_10_method_136_code 42 = .ok (.invokevirtual 73, 3) ∧ decode prog_10_method_136_code 45 = .ok (.if_icmp .lt 9, 3) ∧ decode prog_10_method_136_code 48 = .ok (.aload_n 0, 1) ∧ decode prog_10_method_136_code 49 = .ok (.bipush 63, 2) ∧ decode prog_10_method_136_code 51 = .ok (.invokevirtual 440, 3) ∧ decode prog_10_method_136_code 54 = .ok (.iinc 1 1, 3) ∧ decode prog_10_method_136_code 57 = .ok (.goto (-45), 3) ∧ decode prog_10_method_136_code 60 = .ok (.aload_n 0, 1) ∧ decode prog_10_method_136_code 61 = .ok (.getfield 437, 3) ∧ decode prog_10_method_136_code 64 = .ok (.ireturn, 1) := by decide +kernel
def T_Mm_printModuli : TT := [(0, o_ald 0 1), (1, o_push (.int (iI (0))) 2), (2, o_puti 8 0 5), (5, o_ald 0 6), (6, o_push (.int (iI (0))) 7), (7, o_puti 8 28 10), (10, o_push (.int (iI (0))) 11), (11, o_ist 1 12), (12, o_ild 1 13), (13, o_ald 0 14), (14, o_callV M_Mm_many 8 1 17), (17, o_icmp_ge 60 20), (20, o_ild 1 21), (21, o_if_le 30 24), (24, o_ald 0 25), (25, o_push (.int (iI (32))) 27), (27, o_callV M_Mm_writes 8 2 30), (30, o_ald 0 31), (31, o_ald 0 32), (32, o_ild 1 33), (33, o_callV M_Mm_mod 8 2 36), (36, o_i2l 37), (37, o_callV M_Mm_writesNumber 8 2 40), (40, o_ild 1 41), (41, o_ald 0 42), (42, o_callV M_Mm_bases 8 1 45), (45, o_icmp_lt 54 48), (48, o_ald 0 49), (49, o_push (.int (iI (63))) 51), (51, o_callV M_Mm_writes 8 2 54), (54, o_iinc 1 (iI (1)) 57), (57, o_goto 12), (60, o_ald 0 61), (61, o_get 8 28 64), (64, o_iret)]
theorem k_Mm_printModuli : ∀ x ∈ T_Mm_printModuli, SO M_Mm_printModuli x.1 x.2 := by
  obtain ⟨h0, h1, h2, h5, h6, h7, h10, h11, h12, h13, h14, h17⟩ := e0_Mm_printModuli
  obtain ⟨h20, h21, h24, h25, h27, h30, h31, h32, h33, h36, h37, h40⟩ := e1_Mm_printModuli
  obtain ⟨h41, h42, h45, h48, h49, h51, h54, h57, h60, h61, h64⟩ := e2_Mm_printModuli
  refine ac (s_aldn (M := M_Mm_printModuli) (pc := 0) (k := 0) h0) ?_
  refine ac (s_iconst (M := M_Mm_printModuli) (pc := 1) h1 rfl) ?_
  refine ac (s_puti (M := M_Mm_printModuli) (pc := 2) (T := TX8) (N := 29) (ty0 := tyX8) h2 ⟨rfl, in_X8, by decide, wd1689, tyX8_ok, nmX8, (Or.inl rfl)⟩ rfl) ?_
  refine ac (s_aldn (M := M_Mm_printModuli) (pc := 5) (k := 0) h5) ?_
  refine ac (s_iconst (M := M_Mm_printModuli) (pc := 6) h6 rfl) ?_
  refine ac (s_puti (M := M_Mm_printModuli) (pc := 7) (T := TX8) (N := 29) (ty0 := tyX8) h7 ⟨rfl, in_X8, by decide, wd1717, tyX8_ok, nmX8, (Or.inl rfl)⟩ rfl) ?_
  refine ac (s_iconst (M := M_Mm_printModuli) (pc := 10) h10 rfl) ?_
  refine ac (s_istn (M := M_Mm_printModuli) (pc := 11) (k := 1) h11 (by decide)) ?_
  refine ac (s_ildn (M := M_Mm_printModuli) (pc := 12) (k := 1) h12) ?_
  refine ac (s_aldn (M := M_Mm_printModuli) (pc := 13) (k := 0) h13) ?_
  refine ac (s_callV (M := M_Mm_printModuli) (pc := 14) (tz_Mm rfl) h14 q_Mm_many wd1849 wd1851 wd38 rfl (T := TX8) (N := 29) rfl) ?_
  refine ac (s_icmp_ge (M := M_Mm_printModuli) (pc := 17) h17 (by decide)) ?_
  refine ac (s_ildn (M := M_Mm_printModuli) (pc := 20) (k := 1) h20) ?_
  refine ac (s_if_le (M := M_Mm_printModuli) (pc := 21) h21 (by decide)) ?_
  refine ac (s_aldn (M := M_Mm_printModuli) (pc := 24) (k := 0) h24) ?_
  refine ac (s_bipush (M := M_Mm_printModuli) (pc := 25) h25 (by decide)) ?_
  refine ac (s_callV (M := M_Mm_printModuli) (pc := 27) (tz_Mm rfl) h27 q_Mm_writes wd2313 wd2315 wd107 rfl (T := TX8) (N := 29) rfl) ?_
  refine ac (s_aldn (M := M_Mm_printModuli) (pc := 30) (k := 0) h30) ?_
  refine ac (s_aldn (M := M_Mm_printModuli) (pc := 31) (k := 0) h31) ?_
  refine ac (s_ildn (M := M_Mm_printModuli) (pc := 32) (k := 1) h32) ?_
  refine ac (s_callV (M := M_Mm_printModuli) (pc := 33) (tz_Mm rfl) h33 q_Mm_mod wd1866 wd1868 wd42 rfl (T := TX8) (N := 29) rfl) ?_
  refine ac (s_i2l (M := M_Mm_printModuli) (pc := 36) h36) ?_
  refine ac (s_callV (M := M_Mm_printModuli) (pc := 37) (tz_Mm rfl) h37 q_Mm_writesNumber wd2317 wd2319 wd108 rfl (T := TX8) (N := 29) rfl) ?_
  refine ac (s_ildn (M := M_Mm_printModuli) (pc := 40) (k := 1) h40) ?_
  refine ac (s_aldn (M := M_Mm_printModuli) (pc := 41) (k := 0) h41) ?_
  refine ac (s_callV (M := M_Mm_printModuli) (pc := 42) (tz_Mm rfl) h42 q_Mm_bases wd1910 wd1912 wd51 rfl (T := TX8) (N := 29) rfl) ?_
  refine ac (s_icmp_lt (M := M_Mm_printModuli) (pc := 45) h45 (by decide)) ?_
  refine ac (s_aldn (M := M_Mm_printModuli) (pc := 48) (k := 0) h48) ?_
  refine ac (s_bipush (M := M_Mm_printModuli) (pc := 49) h49 (by decide)) ?_
  refine ac (s_callV (M := M_Mm_printModuli) (pc := 51) (tz_Mm rfl) h51 q_Mm_writes wd2313 wd2315 wd107 rfl (T := TX8) (N := 29) rfl) ?_
  refine ac (s_iinc (M := M_Mm_printModuli) (pc := 54) h54 rfl (by decide)) ?_
  refine ac (s_goto (M := M_Mm_printModuli) (pc := 57) h57 (by decide)) ?_
  refine ac (s_aldn (M := M_Mm_printModuli) (pc := 60) (k := 0) h60) ?_
  refine ac (s_get (M := M_Mm_printModuli) (pc := 61) (T := TX8) (N := 29) h61 rfl in_X8 (by decide) wd1717) ?_
  refine ac (s_iret (M := M_Mm_printModuli) (pc := 64) h64 rfl) ?_
  exact ac_nil
theorem e0_Mm_outputByte : decode prog_10_method_137_code 0 = .ok (.aload_n 0, 1) ∧ decode prog_10_method_137_code 1 = .ok (.iconst 0, 1) ∧ decode prog_10_method_137_code 2 = .ok (.putfield 1, 3) ∧ decode prog_10_method_137_code 5 = .ok (.iload_n 1, 1) ∧ decode prog_10_method_137_code 6 = .ok (.i2l, 1) ∧ decode prog_10_method_137_code 7 = .ok (.lconst 0, 1) ∧ decode prog_10_method_137_code 8 = .ok (.aload_n 0, 1) ∧ decode prog_10_method_137_code 9 = .ok (.getfield 437, 3) ∧ decode prog_10_method_137_code 12 = .ok (.iconst 1, 1) ∧ decode prog_10_method_137_code 13 = .ok (.isub, 1) ∧ decode prog_10_method_137_code 14 = .ok (.i2l, 1) ∧ decode prog_10_method_137_code 15 = .ok (.invokestatic 57, 3) := by decide +kernel
theorem e1_Mm_outputByte : decode prog_10_method_137_code 18 = .ok (.ifCond .eq 12, 3) ∧ decode prog_10_method_137_code 21 = .ok (.aload_n 0, 1) ∧ decode prog_10_method_137_code 22 = .ok (.getfield 52, 3) ∧ decode prog_10_method_137_code 25 = .ok (.iload_n 1, 1) ∧ decode prog_10_method_137_code 26 = .ok (.baload, 1) ∧ decode prog_10_method_137_code 27 = .ok (.goto 4, 3) ∧ decode prog_10_method_137_code 30 = .ok (.iconst (-1), 1) ∧ decode prog_10_method_137_code 31 = .ok (.ireturn, 1) := by decide +kernel
def T_Mm_outputByte : TT := [(0, o_ald 0 1), (1, o_push (.int (iI (0))) 2), (2, o_puti 8 0 5), (5, o_ild 1 6), (6, o_i2l 7), (7, o_push (.long (lI 0)) 8), (8, o_ald 0 9), (9, o_get 8 28 12), (12, o_push (.int (iI (1))) 13), (13, o_isub 14), (14, o_i2l 15), (15, o_call M_Mm_isIn 3 18), (18, o_if_eq 30 21), (21, o_ald 0 22), (22, o_get 8 27 25), (25, o_ild 1 26), (26, o_bald 27), (27, o_goto 31), (30, o_push (.int (iI (-1))) 31), (31, o_iret)]
theorem k_Mm_outputByte : ∀ x ∈ T_Mm_outputByte, SO M_Mm_outputByte x.1 x.2 := by
  obtain ⟨h0, h1, h2, h5, h6, h7, h8, h9, h12, h13, h14, h15⟩ := e0_Mm_outputByte
  obtain ⟨h18, h21, h22, h25, h26, h27, h30, h31⟩ := e1_Mm_outputByte
  refine ac (s_aldn (M := M_Mm_outputByte) (pc := 0) (k := 0) h0) ?_
  refine ac (s_iconst (M := M_Mm_outputByte) (pc := 1) h1 rfl) ?_
  refine ac (s_puti (M := M_Mm_outputByte) (pc := 2) (T := TX8) (N := 29) (ty0 := tyX8) h2 ⟨rfl, in_X8, by decide, wd1689, tyX8_ok, nmX8, (Or.inl rfl)⟩ rfl) ?_
  refine ac (s_ildn (M := M_Mm_outputByte) (pc := 5) (k := 1) h5) ?_
  refine ac (s_i2l (M := M_Mm_outputByte) (pc := 6) h6) ?_
  refine ac (s_lconst (M := M_Mm_outputByte) (pc := 7) h7 (by decide)) ?_
  refine ac (s_aldn (M := M_Mm_outputByte) (pc := 8) (k := 0) h8) ?_
  refine ac (s_get (M := M_Mm_outputByte) (pc := 9) (T := TX8) (N := 29) h9 rfl in_X8 (by decide) wd1717) ?_
  refine ac (s_iconst (M := M_Mm_outputByte) (pc := 12) h12 rfl) ?_
  refine ac (s_isub (M := M_Mm_outputByte) (pc := 13) h13) ?_
  refine ac (s_i2l (M := M_Mm_outputByte) (pc := 14) h14) ?_
  refine ac (s_callS (M := M_Mm_outputByte) (pc := 15) (tz_Mm rfl) h15 q_Mm_isIn wd1789 wd1790) ?_
  refine ac (s_if_eq (M := M_Mm_outputByte) (pc := 18) h18 (by decide)) ?_
  refine ac (s_aldn (M := M_Mm_outputByte) (pc := 21) (k := 0) h21) ?_
  refine ac (s_get (M := M_Mm_outputByte) (pc := 22) (T := TX8) (N := 29) h22 rfl in_X8 (by decide) wd1716) ?_
  refine ac (s_ildn (M := M_Mm_outputByte) (pc := 25) (k := 1) h25) ?_
  refine ac (s_bald (M := M_Mm_outputByte) (pc := 26) h26) ?_
  refine ac (s_goto (M := M_Mm_outputByte) (pc := 27) h27 (by decide)) ?_
  refine ac (s_iconst (M := M_Mm_outputByte) (pc := 30) h30 rfl) ?_
  refine ac (s_iret (M := M_Mm_outputByte) (pc := 31) h31 rfl) ?_
  exact ac_nil
theorem e0_Mm_saveState : decode prog_10_method_138_code 0 = .ok (.aload_n 0, 1) ∧ decode prog_10_method_138_code 1 = .ok (.iconst 0, 1) ∧ decode prog_10_method_138_code 2 = .ok (.putfield 1, 3) ∧ decode prog_10_method_138_code 5 = .ok (.aload_n 0, 1) ∧ decode prog_10_method_138_code 6 = .ok (.getfield 13, 3) ∧ decode prog_10_method_138_code 9 = .ok (.iconst 0, 1) ∧ decode prog_10_method_138_code 10 = .ok (.aload_n 0, 1) ∧ decode prog_10_method_138_code 11 = .ok (.getfield 20, 3) ∧ decode prog_10_method_138_code 14 = .ok (.iconst 0, 1) ∧ decode prog_10_method_138_code 15 = .ok (.bipush 70, 2) ∧ decode prog_10_method_138_code 17 = .ok (.invokestatic 132, 3) ∧ decode prog_10_method_138_code 20 = .ok (.aload_n 0, 1) := by decide +kernel
theorem e1_Mm_saveState : decode prog_10_method_138_code 21 = .ok (.iconst 1, 1) ∧ decode prog_10_method_138_code 22 = .ok (.putfield 270, 3) ∧ decode prog_10_method_138_code 25 = .ok (.aload_n 0, 1) ∧ decode prog_10_method_138_code 26 = .ok (.invokevirtual 61, 3) ∧ decode prog_10_method_138_code 29 = .ok (.ireturn, 1) := by decide +kernel
def T_Mm_saveState : TT := [(0, o_ald 0 1), (1, o_push (.int (iI (0))) 2), (2, o_puti 8 0 5), (5, o_ald 0 6), (6, o_get 8 1 9), (9, o_push (.int (iI (0))) 10), (10, o_ald 0 11), (11, o_get 8 3 14), (14, o_push (.int (iI (0))) 15), (15, o_push (.int (iI (70))) 17), (17, o_call M_Mm_copies 5 20), (20, o_ald 0 21), (21, o_push (.int (iI (1))) 22), (22, o_putz 8 6 25), (25, o_ald 0 26), (26, o_callV M_Mm_many 8 1 29), (29, o_iret)]
theorem k_Mm_saveState : ∀ x ∈ T_Mm_saveState, SO M_Mm_saveState x.1 x.2 := by
  obtain ⟨h0, h1, h2, h5, h6, h9, h10, h11, h14, h15, h17, h20⟩ := e0_Mm_saveState
  obtain ⟨h21, h22, h25, h26, h29⟩ := e1_Mm_saveState
  refine ac (s_aldn (M := M_Mm_saveState) (pc := 0) (k := 0) h0) ?_
  refine ac (s_iconst (M := M_Mm_saveState) (pc := 1) h1 rfl) ?_
  refine ac (s_puti (M := M_Mm_saveState) (pc := 2) (T := TX8) (N := 29) (ty0 := tyX8) h2 ⟨rfl, in_X8, by decide, wd1689, tyX8_ok, nmX8, (Or.inl rfl)⟩ rfl) ?_
  refine ac (s_aldn (M := M_Mm_saveState) (pc := 5) (k := 0) h5) ?_
  refine ac (s_get (M := M_Mm_saveState) (pc := 6) (T := TX8) (N := 29) h6 rfl in_X8 (by decide) wd1690) ?_
  refine ac (s_iconst (M := M_Mm_saveState) (pc := 9) h9 rfl) ?_
  refine ac (s_aldn (M := M_Mm_saveState) (pc := 10) (k := 0) h10) ?_
  refine ac (s_get (M := M_Mm_saveState) (pc := 11) (T := TX8) (N := 29) h11 rfl in_X8 (by decide) wd1692) ?_
  refine ac (s_iconst (M := M_Mm_saveState) (pc := 14) h14 rfl) ?_
  refine ac (s_bipush (M := M_Mm_saveState) (pc := 15) h15 (by decide)) ?_
  refine ac (s_callS (M := M_Mm_saveState) (pc := 17) (tz_Mm rfl) h17 q_Mm_copies wd1804 wd1805) ?_
  refine ac (s_aldn (M := M_Mm_saveState) (pc := 20) (k := 0) h20) ?_
  refine ac (s_iconst (M := M_Mm_saveState) (pc := 21) h21 rfl) ?_
  refine ac (s_putz (M := M_Mm_saveState) (pc := 22) (T := TX8) (N := 29) (ty0 := tyX8) h22 ⟨rfl, in_X8, by decide, wd1695, tyX8_ok, nmX8, (Or.inl rfl)⟩ rfl) ?_
  refine ac (s_aldn (M := M_Mm_saveState) (pc := 25) (k := 0) h25) ?_
  refine ac (s_callV (M := M_Mm_saveState) (pc := 26) (tz_Mm rfl) h26 q_Mm_many wd1849 wd1851 wd38 rfl (T := TX8) (N := 29) rfl) ?_
  refine ac (s_iret (M := M_Mm_saveState) (pc := 29) h29 rfl) ?_
  exact ac_nil
theorem e0_Mm_restoreState : decode prog_10_method_139_code 0 = .ok (.aload_n 0, 1) ∧ decode prog_10_method_139_code 1 = .ok (.aload_n 0, 1) ∧ decode prog_10_method_139_code 2 = .ok (.getfield 270, 3) ∧ decode prog_10_method_139_code 5 = .ok (.ifCond .eq 7, 3) ∧ decode prog_10_method_139_code 8 = .ok (.iconst 0, 1) ∧ decode prog_10_method_139_code 9 = .ok (.goto 4, 3) ∧ decode prog_10_method_139_code 12 = .ok (.iconst 1, 1) ∧ decode prog_10_method_139_code 13 = .ok (.putfield 1, 3) ∧ decode prog_10_method_139_code 16 = .ok (.aload_n 0, 1) ∧ decode prog_10_method_139_code 17 = .ok (.getfield 1, 3) ∧ decode prog_10_method_139_code 20 = .ok (.ifCond .eq 5, 3) ∧ decode prog_10_method_139_code 23 = .ok (.iconst 0, 1) := by decide +kernel
theorem e1_Mm_restoreState : decode prog_10_method_139_code 24 = .ok (.ireturn, 1) ∧ decode prog_10_method_139_code 25 = .ok (.aload_n 0, 1) ∧ decode prog_10_method_139_code 26 = .ok (.getfield 20, 3) ∧ decode prog_10_method_139_code 29 = .ok (.iconst 0, 1) ∧ decode prog_10_method_139_code 30 = .ok (.aload_n 0, 1) ∧ decode prog_10_method_139_code 31 = .ok (.getfield 13, 3) ∧ decode prog_10_method_139_code 34 = .ok (.iconst 0, 1) ∧ decode prog_10_method_139_code 35 = .ok (.bipush 70, 2) ∧ decode prog_10_method_139_code 37 = .ok (.invokestatic 132, 3) ∧ decode prog_10_method_139_code 40 = .ok (.aload_n 0, 1) ∧ decode prog_10_method_139_code 41 = .ok (.iconst 0, 1) ∧ decode prog_10_method_139_code 42 = .ok (.putfield 129, 3) := by decide +kernel
theorem e2_Mm_restoreState : decode prog_10_method_139_code 45 = .ok (.aload_n 0, 1) ∧ decode prog_10_method_139_code 46 = .ok (.invokevirtual 61, 3) ∧ decode prog_10_method_139_code 49 = .ok (.ireturn, 1) := by decide +kernel
def T_Mm_restoreState : TT := [(0, o_ald 0 1), (1, o_ald 0 2), (2, o_get 8 6 5), (5, o_if_eq 12 8), (8, o_push (.int (iI (0))) 9), (9, o_goto 13), (12, o_push (.int (iI (1))) 13), (13, o_puti 8 0 16), (16, o_ald 0 17), (17, o_get 8 0 20), (20, o_if_eq 25 23), (23, o_push (.int (iI (0))) 24), (24, o_iret), (25, o_ald 0 26), (26, o_get 8 3 29), (29, o_push (.int (iI (0))) 30), (30, o_ald 0 31), (31, o_get 8 1 34), (34, o_push (.int (iI (0))) 35), (35, o_push (.int (iI (70))) 37), (37, o_call M_Mm_copies 5 40), (40, o_ald 0 41), (41, o_push (.int (iI (0))) 42), (42, o_puti 8 5 45), (45, o_ald 0 46), (46, o_callV M_Mm_many 8 1 49), (49, o_iret)]
theorem k_Mm_restoreState : ∀ x ∈ T_Mm_restoreState, SO M_Mm_restoreState x.1 x.2 := by
  obtain ⟨h0, h1, h2, h5, h8, h9, h12, h13, h16, h17, h20, h23⟩ := e0_Mm_restoreState
  obtain ⟨h24, h25, h26, h29, h30, h31, h34, h35, h37, h40, h41, h42⟩ := e1_Mm_restoreState
  obtain ⟨h45, h46, h49⟩ := e2_Mm_restoreState
  refine ac (s_aldn (M := M_Mm_restoreState) (pc := 0) (k := 0) h0) ?_
  refine ac (s_aldn (M := M_Mm_restoreState) (pc := 1) (k := 0) h1) ?_
  refine ac (s_get (M := M_Mm_restoreState) (pc := 2) (T := TX8) (N := 29) h2 rfl in_X8 (by decide) wd1695) ?_
  refine ac (s_if_eq (M := M_Mm_restoreState) (pc := 5) h5 (by decide)) ?_
  refine ac (s_iconst (M := M_Mm_restoreState) (pc := 8) h8 rfl) ?_
  refine ac (s_goto (M := M_Mm_restoreState) (pc := 9) h9 (by decide)) ?_
  refine ac (s_iconst (M := M_Mm_restoreState) (pc := 12) h12 rfl) ?_
  refine ac (s_puti (M := M_Mm_restoreState) (pc := 13) (T := TX8) (N := 29) (ty0 := tyX8) h13 ⟨rfl, in_X8, by decide, wd1689, tyX8_ok, nmX8, (Or.inl rfl)⟩ rfl) ?_
  refine ac (s_aldn (M := M_Mm_restoreState) (pc := 16) (k := 0) h16) ?_
  refine ac (s_get (M := M_Mm_restoreState) (pc := 17) (T := TX8) (N := 29) h17 rfl in_X8 (by decide) wd1689) ?_
  refine ac (s_if_eq (M := M_Mm_restoreState) (pc := 20) h20 (by decide)) ?_
  refine ac (s_iconst (M := M_Mm_restoreState) (pc := 23) h23 rfl) ?_
  refine ac (s_iret (M := M_Mm_restoreState) (pc := 24) h24 rfl) ?_
  refine ac (s_aldn (M := M_Mm_restoreState) (pc := 25) (k := 0) h25) ?_
  refine ac (s_get (M := M_Mm_restoreState) (pc := 26) (T := TX8) (N := 29) h26 rfl in_X8 (by decide) wd1692) ?_
  refine ac (s_iconst (M := M_Mm_restoreState) (pc := 29) h29 rfl) ?_
  refine ac (s_aldn (M := M_Mm_restoreState) (pc := 30) (k := 0) h30) ?_
  refine ac (s_get (M := M_Mm_restoreState) (pc := 31) (T := TX8) (N := 29) h31 rfl in_X8 (by decide) wd1690) ?_
  refine ac (s_iconst (M := M_Mm_restoreState) (pc := 34) h34 rfl) ?_
  refine ac (s_bipush (M := M_Mm_restoreState) (pc := 35) h35 (by decide)) ?_
  refine ac (s_callS (M := M_Mm_restoreState) (pc := 37) (tz_Mm rfl) h37 q_Mm_copies wd1804 wd1805) ?_
  refine ac (s_aldn (M := M_Mm_restoreState) (pc := 40) (k := 0) h40) ?_
  refine ac (s_iconst (M := M_Mm_restoreState) (pc := 41) h41 rfl) ?_
  refine ac (s_puti (M := M_Mm_restoreState) (pc := 42) (T := TX8) (N := 29) (ty0 := tyX8) h42 ⟨rfl, in_X8, by decide, wd1694, tyX8_ok, nmX8, (Or.inl rfl)⟩ rfl) ?_
  refine ac (s_aldn (M := M_Mm_restoreState) (pc := 45) (k := 0) h45) ?_
  refine ac (s_callV (M := M_Mm_restoreState) (pc := 46) (tz_Mm rfl) h46 q_Mm_many wd1849 wd1851 wd38 rfl (T := TX8) (N := 29) rfl) ?_
  refine ac (s_iret (M := M_Mm_restoreState) (pc := 49) h49 rfl) ?_
  exact ac_nil
