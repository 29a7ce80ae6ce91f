def M_Lw_law : MM := (⟨"RestMillLaw", "law", "([I)Z"⟩, code, 9, (some .boolean))
theorem z_law : tabOf M_Lw_law.1 = [] := by decide +kernel
theorem e0_Lw_law_0 : decode code 0 = .ok (.new 8, 3) ∧ decode code 3 = .ok (.dup, 1) ∧ decode code 4 = .ok (.invokespecial 123, 3) ∧ decode code 7 = .ok (.astore_n 1, 1) ∧ decode code 8 = .ok (.new 124, 3) ∧ decode code 11 = .ok (.dup, 1) ∧ decode code 12 = .ok (.invokespecial 126, 3) ∧ decode code 15 = .ok (.astore_n 2, 1) ∧ decode code 16 = .ok (.iconst 1, 1) ∧ decode code 17 = .ok (.newarray .long, 2) ∧ decode code 19 = .ok (.astore_n 3, 1) ∧ decode code 20 = .ok (.iconst 0, 1) := by decide +kernel
theorem e1_Lw_law_0 : decode code 21 = .ok (.istore 4, 2) ∧ decode code 23 = .ok (.iload 4, 2) ∧ decode code 25 = .ok (.aload_n 0, 1) ∧ decode code 26 = .ok (.arraylength, 1) ∧ decode code 27 = .ok (.bipush 6, 2) ∧ decode code 29 = .ok (.isub, 1) ∧ decode code 30 = .ok (.if_icmp .gt 2606, 3) ∧ decode code 33 = .ok (.aload_n 0, 1) ∧ decode code 34 = .ok (.iload 4, 2) ∧ decode code 36 = .ok (.iaload, 1) ∧ decode code 37 = .ok (.bipush 63, 2) ∧ decode code 39 = .ok (.iand, 1) := by decide +kernel
theorem e2_Lw_law_0 : decode code 40 = .ok (.tableswitch 2590 0 46 #[204, 277, 302, 315, 328, 341, 354, 410, 466, 521, 577, 645, 700, 768, 836, 903, 959, 1014, 1069, 1132, 1200, 1296, 1310, 1378, 1457, 1537, 1593, 1672, 1685, 1698, 1711, 1752, 1795, 1863, 1943, 2035, 2103, 2159, 2227, 2283, 2339, 2395, 2439, 2495, 2508, 2533, 2546], 204) := by decide +kernel
def T_Lw_law_0 (L : Nat) (xs : Nat → Int32) : TT := [(0, o_new 0 12 [.null, .int (iI 0), .null, .null, .null, .int (iI 0), .null, .null, .null, .int (iI 0), .int (iI 0), .null] 3), (3, o_dup 4), (4, o_callI M_R_init 1 92 7051 7), (7, o_ast 1 8), (8, o_new 8 29 [.int (iI 0), .null, .null, .null, .null, .int (iI 0), .int (iI 0), .null, .null, .int (iI 0), .int (iI 0), .int (iI 0), .int (iI 0), .int (iI 0), .int (iI 0), .int (iI 0), .int (iI 0), .null, .int (iI 0), .null, .null, .int (iI 0), .int (iI 0), .int (iI 0), .null, .int (iI 0), .null, .null, .int (iI 0)] 11), (11, o_dup 12), (12, o_callI M_Mm_init 1 12 2968 15), (15, o_ast 2 16), (16, o_push (.int (iI (1))) 17), (17, o_newal 19), (19, o_ast 3 20), (20, o_push (.int (iI (0))) 21), (21, o_ist 4 23), (23, o_ild 4 25), (25, o_ald 0 26), (26, o_sln L 27), (27, o_push (.int (iI (6))) 29), (29, o_isub 30), (30, o_icmp_gt 2636 33), (33, o_ald 0 34), (34, o_ild 4 36), (36, o_sld L xs 37), (37, o_push (.int (iI (63))) 39), (39, o_iand 40), (40, o_tsw 0 [244, 317, 342, 355, 368, 381, 394, 450, 506, 561, 617, 685, 740, 808, 876, 943, 999, 1054, 1109, 1172, 1240, 1336, 1350, 1418, 1497, 1577, 1633, 1712, 1725, 1738, 1751, 1792, 1835, 1903, 1983, 2075, 2143, 2199, 2267, 2323, 2379, 2435, 2479, 2535, 2548, 2573, 2586] 2630)]
theorem k_Lw_law_0 (L : Nat) (xs : Nat → Int32) : ∀ x ∈ T_Lw_law_0 L xs, SP (gS L xs) M_Lw_law x.1 x.2 := by
  obtain ⟨h0, h3, h4, h7, h8, h11, h12, h15, h16, h17, h19, h20⟩ := e0_Lw_law_0
  obtain ⟨h21, h23, h25, h26, h27, h29, h30, h33, h34, h36, h37, h39⟩ := e1_Lw_law_0
  have h40 := e2_Lw_law_0
  refine acP (SP_of (s_new (M := M_Lw_law) (pc := 0) (T := TX7) (N := 12) (fs := [.null, .int (iI 0), .null, .null, .null, .int (iI 0), .null, .null, .null, .int (iI 0), .int (iI 0), .null]) h0 rfl in_X7 tyX7_ok wd142 wd143 wd110 (fun j hj => match j, hj with | 0, _ => rfl | 1, _ => rfl | 2, _ => rfl | 3, _ => rfl | 4, _ => rfl | 5, _ => rfl | 6, _ => rfl | 7, _ => rfl | 8, _ => rfl | 9, _ => rfl | 10, _ => rfl | 11, _ => rfl | j + 12, h => absurd h (by omega)) (fun _ => rfl))) ?_
  refine acP (SP_of (s_dup (M := M_Lw_law) (pc := 3) h3)) ?_
  refine acP (SP_of (s_callI (M := M_Lw_law) (pc := 4) (mc1 := 92) (ms1 := 7051) (z_law) h4 q_R_init rfl rfl wd144 wd145)) ?_
  refine acP (SP_of (s_astn (M := M_Lw_law) (pc := 7) (k := 1) h7 (by decide))) ?_
  refine acP (SP_of (s_new (M := M_Lw_law) (pc := 8) (T := TX8) (N := 29) (fs := [.int (iI 0), .null, .null, .null, .null, .int (iI 0), .int (iI 0), .null, .null, .int (iI 0), .int (iI 0), .int (iI 0), .int (iI 0), .int (iI 0), .int (iI 0), .int (iI 0), .int (iI 0), .null, .int (iI 0), .null, .null, .int (iI 0), .int (iI 0), .int (iI 0), .null, .int (iI 0), .null, .null, .int (iI 0)]) h8 rfl in_X8 tyX8_ok wd1683 wd1684 wd123 (fun j hj => match j, hj with | 0, _ => rfl | 1, _ => rfl | 2, _ => rfl | 3, _ => rfl | 4, _ => rfl | 5, _ => rfl | 6, _ => rfl | 7, _ => rfl | 8, _ => rfl | 9, _ => rfl | 10, _ => rfl | 11, _ => rfl | 12, _ => rfl | 13, _ => rfl | 14, _ => rfl | 15, _ => rfl | 16, _ => rfl | 17, _ => rfl | 18, _ => rfl | 19, _ => rfl | 20, _ => rfl | 21, _ => rfl | 22, _ => rfl | 23, _ => rfl | 24, _ => rfl | 25, _ => rfl | 26, _ => rfl | 27, _ => rfl | 28, _ => rfl | j + 29, h => absurd h (by omega)) (fun _ => rfl))) ?_
  refine acP (SP_of (s_dup (M := M_Lw_law) (pc := 11) h11)) ?_
  refine acP (SP_of (s_callI (M := M_Lw_law) (pc := 12) (mc1 := 12) (ms1 := 2968) (z_law) h12 q_Mm_init rfl rfl wd1685 wd1686)) ?_
  refine acP (SP_of (s_astn (M := M_Lw_law) (pc := 15) (k := 2) h15 (by decide))) ?_
  refine acP (SP_of (s_iconst (M := M_Lw_law) (pc := 16) h16 rfl)) ?_
  refine acP (SP_of (s_newal (M := M_Lw_law) (pc := 17) h17 rfl wd192 (fun _ _ => rfl))) ?_
  refine acP (SP_of (s_astn (M := M_Lw_law) (pc := 19) (k := 3) h19 (by decide))) ?_
  refine acP (SP_of (s_iconst (M := M_Lw_law) (pc := 20) h20 rfl)) ?_
  refine acP (SP_of (s_ist (M := M_Lw_law) (pc := 21) h21 (by decide))) ?_
  refine acP (SP_of (s_ild (M := M_Lw_law) (pc := 23) h23)) ?_
  refine acP (SP_of (s_aldn (M := M_Lw_law) (pc := 25) (k := 0) h25)) ?_
  refine acP (s_sln (M := M_Lw_law) (pc := 26) h26) ?_
  refine acP (SP_of (s_bipush (M := M_Lw_law) (pc := 27) h27 (by decide))) ?_
  refine acP (SP_of (s_isub (M := M_Lw_law) (pc := 29) h29)) ?_
  refine acP (SP_of (s_icmp_gt (M := M_Lw_law) (pc := 30) h30 (by decide))) ?_
  refine acP (SP_of (s_aldn (M := M_Lw_law) (pc := 33) (k := 0) h33)) ?_
  refine acP (SP_of (s_ild (M := M_Lw_law) (pc := 34) h34)) ?_
  refine acP (s_sld (M := M_Lw_law) (pc := 36) h36) ?_
  refine acP (SP_of (s_bipush (M := M_Lw_law) (pc := 37) h37 (by decide))) ?_
  refine acP (SP_of (s_iand (M := M_Lw_law) (pc := 39) h39)) ?_
  refine acP (SP_of (s_tsw (M := M_Lw_law) (pc := 40) h40 (by decide) (by decide) (sw_all _ _ (by decide)))) ?_
  exact acP_nil
theorem e0_Lw_law_244 : decode code 244 = .ok (.aload_n 1, 1) ∧ decode code 245 = .ok (.aload_n 0, 1) ∧ decode code 246 = .ok (.iload 4, 2) ∧ decode code 248 = .ok (.iconst 1, 1) ∧ decode code 249 = .ok (.iadd, 1) ∧ decode code 250 = .ok (.iaload, 1) ∧ decode code 251 = .ok (.aload_n 0, 1) ∧ decode code 252 = .ok (.iload 4, 2) ∧ decode code 254 = .ok (.iconst 2, 1) ∧ decode code 255 = .ok (.iadd, 1) ∧ decode code 256 = .ok (.iaload, 1) ∧ decode code 257 = .ok (.aload_n 0, 1) := by decide +kernel
theorem e1_Lw_law_244 : decode code 258 = .ok (.iload 4, 2) ∧ decode code 260 = .ok (.iconst 3, 1) ∧ decode code 261 = .ok (.iadd, 1) ∧ decode code 262 = .ok (.iaload, 1) ∧ decode code 263 = .ok (.aload_n 0, 1) ∧ decode code 264 = .ok (.iload 4, 2) ∧ decode code 266 = .ok (.iconst 4, 1) ∧ decode code 267 = .ok (.iadd, 1) ∧ decode code 268 = .ok (.iaload, 1) ∧ decode code 269 = .ok (.aload_n 0, 1) ∧ decode code 270 = .ok (.iload 4, 2) ∧ decode code 272 = .ok (.iconst 5, 1) := by decide +kernel
theorem e2_Lw_law_244 : decode code 273 = .ok (.iadd, 1) ∧ decode code 274 = .ok (.iaload, 1) ∧ decode code 275 = .ok (.invokevirtual 127, 3) ∧ decode code 278 = .ok (.aload_n 2, 1) ∧ decode code 279 = .ok (.aload_n 0, 1) ∧ decode code 280 = .ok (.iload 4, 2) ∧ decode code 282 = .ok (.iconst 1, 1) ∧ decode code 283 = .ok (.iadd, 1) ∧ decode code 284 = .ok (.iaload, 1) ∧ decode code 285 = .ok (.aload_n 0, 1) ∧ decode code 286 = .ok (.iload 4, 2) ∧ decode code 288 = .ok (.iconst 2, 1) := by decide +kernel
theorem e3_Lw_law_244 : decode code 289 = .ok (.iadd, 1) ∧ decode code 290 = .ok (.iaload, 1) ∧ decode code 291 = .ok (.aload_n 0, 1) ∧ decode code 292 = .ok (.iload 4, 2) ∧ decode code 294 = .ok (.iconst 3, 1) ∧ decode code 295 = .ok (.iadd, 1) ∧ decode code 296 = .ok (.iaload, 1) ∧ decode code 297 = .ok (.aload_n 0, 1) ∧ decode code 298 = .ok (.iload 4, 2) ∧ decode code 300 = .ok (.iconst 4, 1) ∧ decode code 301 = .ok (.iadd, 1) ∧ decode code 302 = .ok (.iaload, 1) := by decide +kernel
theorem e4_Lw_law_244 : decode code 303 = .ok (.aload_n 0, 1) ∧ decode code 304 = .ok (.iload 4, 2) ∧ decode code 306 = .ok (.iconst 5, 1) ∧ decode code 307 = .ok (.iadd, 1) ∧ decode code 308 = .ok (.iaload, 1) ∧ decode code 309 = .ok (.invokevirtual 131, 3) ∧ decode code 312 = .ok (.if_icmp .eq 2318, 3) ∧ decode code 315 = .ok (.iconst 0, 1) ∧ decode code 316 = .ok (.ireturn, 1) := by decide +kernel
def T_Lw_law_244 (L : Nat) (xs : Nat → Int32) : TT := [(244, o_ald 1 245), (245, o_ald 0 246), (246, o_ild 4 248), (248, o_push (.int (iI (1))) 249), (249, o_iadd 250), (250, o_sld L xs 251), (251, o_ald 0 252), (252, o_ild 4 254), (254, o_push (.int (iI (2))) 255), (255, o_iadd 256), (256, o_sld L xs 257), (257, o_ald 0 258), (258, o_ild 4 260), (260, o_push (.int (iI (3))) 261), (261, o_iadd 262), (262, o_sld L xs 263), (263, o_ald 0 264), (264, o_ild 4 266), (266, o_push (.int (iI (4))) 267), (267, o_iadd 268), (268, o_sld L xs 269), (269, o_ald 0 270), (270, o_ild 4 272), (272, o_push (.int (iI (5))) 273), (273, o_iadd 274), (274, o_sld L xs 275), (275, o_callV M_R_appendInput 0 6 278), (278, o_ald 2 279), (279, o_ald 0 280), (280, o_ild 4 282), (282, o_push (.int (iI (1))) 283), (283, o_iadd 284), (284, o_sld L xs 285), (285, o_ald 0 286), (286, o_ild 4 288), (288, o_push (.int (iI (2))) 289), (289, o_iadd 290), (290, o_sld L xs 291), (291, o_ald 0 292), (292, o_ild 4 294), (294, o_push (.int (iI (3))) 295), (295, o_iadd 296), (296, o_sld L xs 297), (297, o_ald 0 298), (298, o_ild 4 300), (300, o_push (.int (iI (4))) 301), (301, o_iadd 302), (302, o_sld L xs 303), (303, o_ald 0 304), (304, o_ild 4 306), (306, o_push (.int (iI (5))) 307), (307, o_iadd 308), (308, o_sld L xs 309), (309, o_callV M_Mm_appendInput 8 6 312), (312, o_icmp_eq 2630 315), (315, o_push (.int (iI (0))) 316), (316, o_zret)]
theorem k_Lw_law_244 (L : Nat) (xs : Nat → Int32) : ∀ x ∈ T_Lw_law_244 L xs, SP (gS L xs) M_Lw_law x.1 x.2 := by
  obtain ⟨h244, h245, h246, h248, h249, h250, h251, h252, h254, h255, h256, h257⟩ := e0_Lw_law_244
  obtain ⟨h258, h260, h261, h262, h263, h264, h266, h267, h268, h269, h270, h272⟩ := e1_Lw_law_244
  obtain ⟨h273, h274, h275, h278, h279, h280, h282, h283, h284, h285, h286, h288⟩ := e2_Lw_law_244
  obtain ⟨h289, h290, h291, h292, h294, h295, h296, h297, h298, h300, h301, h302⟩ := e3_Lw_law_244
  obtain ⟨h303, h304, h306, h307, h308, h309, h312, h315, h316⟩ := e4_Lw_law_244
  refine acP (SP_of (s_aldn (M := M_Lw_law) (pc := 244) (k := 1) h244)) ?_
  refine acP (SP_of (s_aldn (M := M_Lw_law) (pc := 245) (k := 0) h245)) ?_
  refine acP (SP_of (s_ild (M := M_Lw_law) (pc := 246) h246)) ?_
  refine acP (SP_of (s_iconst (M := M_Lw_law) (pc := 248) h248 rfl)) ?_
  refine acP (SP_of (s_iadd (M := M_Lw_law) (pc := 249) h249)) ?_
  refine acP (s_sld (M := M_Lw_law) (pc := 250) h250) ?_
  refine acP (SP_of (s_aldn (M := M_Lw_law) (pc := 251) (k := 0) h251)) ?_
  refine acP (SP_of (s_ild (M := M_Lw_law) (pc := 252) h252)) ?_
  refine acP (SP_of (s_iconst (M := M_Lw_law) (pc := 254) h254 rfl)) ?_
  refine acP (SP_of (s_iadd (M := M_Lw_law) (pc := 255) h255)) ?_
  refine acP (s_sld (M := M_Lw_law) (pc := 256) h256) ?_
  refine acP (SP_of (s_aldn (M := M_Lw_law) (pc := 257) (k := 0) h257)) ?_
  refine acP (SP_of (s_ild (M := M_Lw_law) (pc := 258) h258)) ?_
  refine acP (SP_of (s_iconst (M := M_Lw_law) (pc := 260) h260 rfl)) ?_
  refine acP (SP_of (s_iadd (M := M_Lw_law) (pc := 261) h261)) ?_
  refine acP (s_sld (M := M_Lw_law) (pc := 262) h262) ?_
  refine acP (SP_of (s_aldn (M := M_Lw_law) (pc := 263) (k := 0) h263)) ?_
  refine acP (SP_of (s_ild (M := M_Lw_law) (pc := 264) h264)) ?_
  refine acP (SP_of (s_iconst (M := M_Lw_law) (pc := 266) h266 rfl)) ?_
  refine acP (SP_of (s_iadd (M := M_Lw_law) (pc := 267) h267)) ?_
  refine acP (s_sld (M := M_Lw_law) (pc := 268) h268) ?_
  refine acP (SP_of (s_aldn (M := M_Lw_law) (pc := 269) (k := 0) h269)) ?_
  refine acP (SP_of (s_ild (M := M_Lw_law) (pc := 270) h270)) ?_
  refine acP (SP_of (s_iconst (M := M_Lw_law) (pc := 272) h272 rfl)) ?_
  refine acP (SP_of (s_iadd (M := M_Lw_law) (pc := 273) h273)) ?_
  refine acP (s_sld (M := M_Lw_law) (pc := 274) h274) ?_
  refine acP (SP_of (s_callV (M := M_Lw_law) (pc := 275) (z_law) h275 q_R_appendInput wd426 wd427 wd428 rfl (T := TX7) (N := 12) rfl)) ?_
  refine acP (SP_of (s_aldn (M := M_Lw_law) (pc := 278) (k := 2) h278)) ?_
  refine acP (SP_of (s_aldn (M := M_Lw_law) (pc := 279) (k := 0) h279)) ?_
  refine acP (SP_of (s_ild (M := M_Lw_law) (pc := 280) h280)) ?_
  refine acP (SP_of (s_iconst (M := M_Lw_law) (pc := 282) h282 rfl)) ?_
  refine acP (SP_of (s_iadd (M := M_Lw_law) (pc := 283) h283)) ?_
  refine acP (s_sld (M := M_Lw_law) (pc := 284) h284) ?_
  refine acP (SP_of (s_aldn (M := M_Lw_law) (pc := 285) (k := 0) h285)) ?_
  refine acP (SP_of (s_ild (M := M_Lw_law) (pc := 286) h286)) ?_
  refine acP (SP_of (s_iconst (M := M_Lw_law) (pc := 288) h288 rfl)) ?_
  refine acP (SP_of (s_iadd (M := M_Lw_law) (pc := 289) h289)) ?_
  refine acP (s_sld (M := M_Lw_law) (pc := 290) h290) ?_
  refine acP (SP_of (s_aldn (M := M_Lw_law) (pc := 291) (k := 0) h291)) ?_
  refine acP (SP_of (s_ild (M := M_Lw_law) (pc := 292) h292)) ?_
  refine acP (SP_of (s_iconst (M := M_Lw_law) (pc := 294) h294 rfl)) ?_
  refine acP (SP_of (s_iadd (M := M_Lw_law) (pc := 295) h295)) ?_
  refine acP (s_sld (M := M_Lw_law) (pc := 296) h296) ?_
  refine acP (SP_of (s_aldn (M := M_Lw_law) (pc := 297) (k := 0) h297)) ?_
  refine acP (SP_of (s_ild (M := M_Lw_law) (pc := 298) h298)) ?_
  refine acP (SP_of (s_iconst (M := M_Lw_law) (pc := 300) h300 rfl)) ?_
  refine acP (SP_of (s_iadd (M := M_Lw_law) (pc := 301) h301)) ?_
  refine acP (s_sld (M := M_Lw_law) (pc := 302) h302) ?_
  refine acP (SP_of (s_aldn (M := M_Lw_law) (pc := 303) (k := 0) h303)) ?_
  refine acP (SP_of (s_ild (M := M_Lw_law) (pc := 304) h304)) ?_
  refine acP (SP_of (s_iconst (M := M_Lw_law) (pc := 306) h306 rfl)) ?_
  refine acP (SP_of (s_iadd (M := M_Lw_law) (pc := 307) h307)) ?_
  refine acP (s_sld (M := M_Lw_law) (pc := 308) h308) ?_
  refine acP (SP_of (s_callV (M := M_Lw_law) (pc := 309) (z_law) h309 q_Mm_appendInput wd1777 wd1778 wd1779 rfl (T := TX8) (N := 29) rfl)) ?_
  refine acP (SP_of (s_icmp_eq (M := M_Lw_law) (pc := 312) h312 (by decide))) ?_
  refine acP (SP_of (s_iconst (M := M_Lw_law) (pc := 315) h315 rfl)) ?_
  refine acP (SP_of (s_zret (M := M_Lw_law) (pc := 316) h316 rfl)) ?_
  exact acP_nil
theorem e0_Lw_law_317 : decode code 317 = .ok (.aload_n 1, 1) ∧ decode code 318 = .ok (.aload_n 0, 1) ∧ decode code 319 = .ok (.iload 4, 2) ∧ decode code 321 = .ok (.iconst 1, 1) ∧ decode code 322 = .ok (.iadd, 1) ∧ decode code 323 = .ok (.iaload, 1) ∧ decode code 324 = .ok (.invokevirtual 132, 3) ∧ decode code 327 = .ok (.aload_n 2, 1) ∧ decode code 328 = .ok (.aload_n 0, 1) ∧ decode code 329 = .ok (.iload 4, 2) ∧ decode code 331 = .ok (.iconst 1, 1) ∧ decode code 332 = .ok (.iadd, 1) := by decide +kernel
theorem e1_Lw_law_317 : decode code 333 = .ok (.iaload, 1) ∧ decode code 334 = .ok (.invokevirtual 135, 3) ∧ decode code 337 = .ok (.if_icmp .eq 2293, 3) ∧ decode code 340 = .ok (.iconst 0, 1) ∧ decode code 341 = .ok (.ireturn, 1) := by decide +kernel
def T_Lw_law_317 (L : Nat) (xs : Nat → Int32) : TT := [(317, o_ald 1 318), (318, o_ald 0 319), (319, o_ild 4 321), (321, o_push (.int (iI (1))) 322), (322, o_iadd 323), (323, o_sld L xs 324), (324, o_callV M_R_truncateInput 0 2 327), (327, o_ald 2 328), (328, o_ald 0 329), (329, o_ild 4 331), (331, o_push (.int (iI (1))) 332), (332, o_iadd 333), (333, o_sld L xs 334), (334, o_callV M_Mm_truncateInput 8 2 337), (337, o_icmp_eq 2630 340), (340, o_push (.int (iI (0))) 341), (341, o_zret)]
theorem k_Lw_law_317 (L : Nat) (xs : Nat → Int32) : ∀ x ∈ T_Lw_law_317 L xs, SP (gS L xs) M_Lw_law x.1 x.2 := by
  obtain ⟨h317, h318, h319, h321, h322, h323, h324, h327, h328, h329, h331, h332⟩ := e0_Lw_law_317
  obtain ⟨h333, h334, h337, h340, h341⟩ := e1_Lw_law_317
  refine acP (SP_of (s_aldn (M := M_Lw_law) (pc := 317) (k := 1) h317)) ?_
  refine acP (SP_of (s_aldn (M := M_Lw_law) (pc := 318) (k := 0) h318)) ?_
  refine acP (SP_of (s_ild (M := M_Lw_law) (pc := 319) h319)) ?_
  refine acP (SP_of (s_iconst (M := M_Lw_law) (pc := 321) h321 rfl)) ?_
  refine acP (SP_of (s_iadd (M := M_Lw_law) (pc := 322) h322)) ?_
  refine acP (s_sld (M := M_Lw_law) (pc := 323) h323) ?_
  refine acP (SP_of (s_callV (M := M_Lw_law) (pc := 324) (z_law) h324 q_R_truncateInput wd434 wd435 wd436 rfl (T := TX7) (N := 12) rfl)) ?_
  refine acP (SP_of (s_aldn (M := M_Lw_law) (pc := 327) (k := 2) h327)) ?_
  refine acP (SP_of (s_aldn (M := M_Lw_law) (pc := 328) (k := 0) h328)) ?_
  refine acP (SP_of (s_ild (M := M_Lw_law) (pc := 329) h329)) ?_
  refine acP (SP_of (s_iconst (M := M_Lw_law) (pc := 331) h331 rfl)) ?_
  refine acP (SP_of (s_iadd (M := M_Lw_law) (pc := 332) h332)) ?_
  refine acP (s_sld (M := M_Lw_law) (pc := 333) h333) ?_
  refine acP (SP_of (s_callV (M := M_Lw_law) (pc := 334) (z_law) h334 q_Mm_truncateInput wd1785 wd1786 wd1787 rfl (T := TX8) (N := 29) rfl)) ?_
  refine acP (SP_of (s_icmp_eq (M := M_Lw_law) (pc := 337) h337 (by decide))) ?_
  refine acP (SP_of (s_iconst (M := M_Lw_law) (pc := 340) h340 rfl)) ?_
  refine acP (SP_of (s_zret (M := M_Lw_law) (pc := 341) h341 rfl)) ?_
  exact acP_nil
theorem e0_Lw_law_342 : decode code 342 = .ok (.aload_n 1, 1) ∧ decode code 343 = .ok (.invokevirtual 136, 3) ∧ decode code 346 = .ok (.aload_n 2, 1) ∧ decode code 347 = .ok (.invokevirtual 139, 3) ∧ decode code 350 = .ok (.if_icmp .eq 2280, 3) ∧ decode code 353 = .ok (.iconst 0, 1) ∧ decode code 354 = .ok (.ireturn, 1) := by decide +kernel
def T_Lw_law_342 (L : Nat) (xs : Nat → Int32) : TT := [(342, o_ald 1 343), (343, o_callV M_R_loadMill 0 1 346), (346, o_ald 2 347), (347, o_callV M_Mm_loadMill 8 1 350), (350, o_icmp_eq 2630 353), (353, o_push (.int (iI (0))) 354), (354, o_zret)]
theorem k_Lw_law_342 (L : Nat) (xs : Nat → Int32) : ∀ x ∈ T_Lw_law_342 L xs, SP (gS L xs) M_Lw_law x.1 x.2 := by
  obtain ⟨h342, h343, h346, h347, h350, h353, h354⟩ := e0_Lw_law_342
  refine acP (SP_of (s_aldn (M := M_Lw_law) (pc := 342) (k := 1) h342)) ?_
  refine acP (SP_of (s_callV (M := M_Lw_law) (pc := 343) (z_law) h343 q_R_loadMill wd438 wd439 wd440 rfl (T := TX7) (N := 12) rfl)) ?_
  refine acP (SP_of (s_aldn (M := M_Lw_law) (pc := 346) (k := 2) h346)) ?_
  refine acP (SP_of (s_callV (M := M_Lw_law) (pc := 347) (z_law) h347 q_Mm_loadMill wd1800 wd1801 wd1802 rfl (T := TX8) (N := 29) rfl)) ?_
  refine acP (SP_of (s_icmp_eq (M := M_Lw_law) (pc := 350) h350 (by decide))) ?_
  refine acP (SP_of (s_iconst (M := M_Lw_law) (pc := 353) h353 rfl)) ?_
  refine acP (SP_of (s_zret (M := M_Lw_law) (pc := 354) h354 rfl)) ?_
  exact acP_nil
theorem e0_Lw_law_355 : decode code 355 = .ok (.aload_n 1, 1) ∧ decode code 356 = .ok (.invokevirtual 140, 3) ∧ decode code 359 = .ok (.aload_n 2, 1) ∧ decode code 360 = .ok (.invokevirtual 143, 3) ∧ decode code 363 = .ok (.if_icmp .eq 2267, 3) ∧ decode code 366 = .ok (.iconst 0, 1) ∧ decode code 367 = .ok (.ireturn, 1) := by decide +kernel
def T_Lw_law_355 (L : Nat) (xs : Nat → Int32) : TT := [(355, o_ald 1 356), (356, o_callV M_R_playScript 0 1 359), (359, o_ald 2 360), (360, o_callV M_Mm_playScript 8 1 363), (363, o_icmp_eq 2630 366), (366, o_push (.int (iI (0))) 367), (367, o_zret)]
theorem k_Lw_law_355 (L : Nat) (xs : Nat → Int32) : ∀ x ∈ T_Lw_law_355 L xs, SP (gS L xs) M_Lw_law x.1 x.2 := by
  obtain ⟨h355, h356, h359, h360, h363, h366, h367⟩ := e0_Lw_law_355
  refine acP (SP_of (s_aldn (M := M_Lw_law) (pc := 355) (k := 1) h355)) ?_
  refine acP (SP_of (s_callV (M := M_Lw_law) (pc := 356) (z_law) h356 q_R_playScript wd713 wd714 wd715 rfl (T := TX7) (N := 12) rfl)) ?_
  refine acP (SP_of (s_aldn (M := M_Lw_law) (pc := 359) (k := 2) h359)) ?_
  refine acP (SP_of (s_callV (M := M_Lw_law) (pc := 360) (z_law) h360 q_Mm_playScript wd1925 wd1926 wd1927 rfl (T := TX8) (N := 29) rfl)) ?_
  refine acP (SP_of (s_icmp_eq (M := M_Lw_law) (pc := 363) h363 (by decide))) ?_
  refine acP (SP_of (s_iconst (M := M_Lw_law) (pc := 366) h366 rfl)) ?_
  refine acP (SP_of (s_zret (M := M_Lw_law) (pc := 367) h367 rfl)) ?_
  exact acP_nil
theorem e0_Lw_law_368 : decode code 368 = .ok (.aload_n 1, 1) ∧ decode code 369 = .ok (.invokevirtual 144, 3) ∧ decode code 372 = .ok (.aload_n 2, 1) ∧ decode code 373 = .ok (.invokevirtual 147, 3) ∧ decode code 376 = .ok (.if_icmp .eq 2254, 3) ∧ decode code 379 = .ok (.iconst 0, 1) ∧ decode code 380 = .ok (.ireturn, 1) := by decide +kernel
def T_Lw_law_368 (L : Nat) (xs : Nat → Int32) : TT := [(368, o_ald 1 369), (369, o_callV M_R_errorCode 0 1 372), (372, o_ald 2 373), (373, o_callV M_Mm_errorCode 8 1 376), (376, o_icmp_eq 2630 379), (379, o_push (.int (iI (0))) 380), (380, o_zret)]
theorem k_Lw_law_368 (L : Nat) (xs : Nat → Int32) : ∀ x ∈ T_Lw_law_368 L xs, SP (gS L xs) M_Lw_law x.1 x.2 := by
  obtain ⟨h368, h369, h372, h373, h376, h379, h380⟩ := e0_Lw_law_368
  refine acP (SP_of (s_aldn (M := M_Lw_law) (pc := 368) (k := 1) h368)) ?_
  refine acP (SP_of (s_callV (M := M_Lw_law) (pc := 369) (z_law) h369 q_R_errorCode wd871 wd872 wd873 rfl (T := TX7) (N := 12) rfl)) ?_
  refine acP (SP_of (s_aldn (M := M_Lw_law) (pc := 372) (k := 2) h372)) ?_
  refine acP (SP_of (s_callV (M := M_Lw_law) (pc := 373) (z_law) h373 q_Mm_errorCode wd1792 wd1793 wd1794 rfl (T := TX8) (N := 29) rfl)) ?_
  refine acP (SP_of (s_icmp_eq (M := M_Lw_law) (pc := 376) h376 (by decide))) ?_
  refine acP (SP_of (s_iconst (M := M_Lw_law) (pc := 379) h379 rfl)) ?_
  refine acP (SP_of (s_zret (M := M_Lw_law) (pc := 380) h380 rfl)) ?_
  exact acP_nil
theorem e0_Lw_law_381 : decode code 381 = .ok (.aload_n 1, 1) ∧ decode code 382 = .ok (.invokevirtual 148, 3) ∧ decode code 385 = .ok (.aload_n 2, 1) ∧ decode code 386 = .ok (.invokevirtual 151, 3) ∧ decode code 389 = .ok (.if_icmp .eq 2241, 3) ∧ decode code 392 = .ok (.iconst 0, 1) ∧ decode code 393 = .ok (.ireturn, 1) := by decide +kernel
def T_Lw_law_381 (L : Nat) (xs : Nat → Int32) : TT := [(381, o_ald 1 382), (382, o_callV M_R_errorOffset 0 1 385), (385, o_ald 2 386), (386, o_callV M_Mm_errorOffset 8 1 389), (389, o_icmp_eq 2630 392), (392, o_push (.int (iI (0))) 393), (393, o_zret)]
theorem k_Lw_law_381 (L : Nat) (xs : Nat → Int32) : ∀ x ∈ T_Lw_law_381 L xs, SP (gS L xs) M_Lw_law x.1 x.2 := by
  obtain ⟨h381, h382, h385, h386, h389, h392, h393⟩ := e0_Lw_law_381
  refine acP (SP_of (s_aldn (M := M_Lw_law) (pc := 381) (k := 1) h381)) ?_
  refine acP (SP_of (s_callV (M := M_Lw_law) (pc := 382) (z_law) h382 q_R_errorOffset wd875 wd876 wd877 rfl (T := TX7) (N := 12) rfl)) ?_
  refine acP (SP_of (s_aldn (M := M_Lw_law) (pc := 385) (k := 2) h385)) ?_
  refine acP (SP_of (s_callV (M := M_Lw_law) (pc := 386) (z_law) h386 q_Mm_errorOffset wd1796 wd1797 wd1798 rfl (T := TX8) (N := 29) rfl)) ?_
  refine acP (SP_of (s_icmp_eq (M := M_Lw_law) (pc := 389) h389 (by decide))) ?_
  refine acP (SP_of (s_iconst (M := M_Lw_law) (pc := 392) h392 rfl)) ?_
  refine acP (SP_of (s_zret (M := M_Lw_law) (pc := 393) h393 rfl)) ?_
  exact acP_nil
theorem e0_Lw_law_394 : decode code 394 = .ok (.aload_n 1, 1) ∧ decode code 395 = .ok (.aload_n 0, 1) ∧ decode code 396 = .ok (.iload 4, 2) ∧ decode code 398 = .ok (.iconst 1, 1) ∧ decode code 399 = .ok (.iadd, 1) ∧ decode code 400 = .ok (.iaload, 1) ∧ decode code 401 = .ok (.aload_n 3, 1) ∧ decode code 402 = .ok (.invokestatic 152, 3) ∧ decode code 405 = .ok (.istore 5, 2) ∧ decode code 407 = .ok (.aload_n 2, 1) ∧ decode code 408 = .ok (.aload_n 0, 1) ∧ decode code 409 = .ok (.iload 4, 2) := by decide +kernel
theorem e1_Lw_law_394 : decode code 411 = .ok (.iconst 1, 1) ∧ decode code 412 = .ok (.iadd, 1) ∧ decode code 413 = .ok (.iaload, 1) ∧ decode code 414 = .ok (.invokevirtual 157, 3) ∧ decode code 417 = .ok (.istore 6, 2) ∧ decode code 419 = .ok (.aload_n 2, 1) ∧ decode code 420 = .ok (.invokevirtual 158, 3) ∧ decode code 423 = .ok (.iload 5, 2) ∧ decode code 425 = .ok (.if_icmp .eq 5, 3) ∧ decode code 428 = .ok (.iconst 0, 1) ∧ decode code 429 = .ok (.ireturn, 1) ∧ decode code 430 = .ok (.iload 5, 2) := by decide +kernel
theorem e2_Lw_law_394 : decode code 432 = .ok (.ifCond .ne 15, 3) ∧ decode code 435 = .ok (.aload_n 3, 1) ∧ decode code 436 = .ok (.iconst 0, 1) ∧ decode code 437 = .ok (.laload, 1) ∧ decode code 438 = .ok (.iload 6, 2) ∧ decode code 440 = .ok (.i2l, 1) ∧ decode code 441 = .ok (.lcmp, 1) ∧ decode code 442 = .ok (.ifCond .eq 5, 3) ∧ decode code 445 = .ok (.iconst 0, 1) ∧ decode code 446 = .ok (.ireturn, 1) ∧ decode code 447 = .ok (.goto 2183, 3) := by decide +kernel
def T_Lw_law_394 (L : Nat) (xs : Nat → Int32) : TT := [(394, o_ald 1 395), (395, o_ald 0 396), (396, o_ild 4 398), (398, o_push (.int (iI (1))) 399), (399, o_iadd 400), (400, o_sld L xs 401), (401, o_ald 3 402), (402, o_callW M_Lw_count 3 1 34 405), (405, o_ist 5 407), (407, o_ald 2 408), (408, o_ald 0 409), (409, o_ild 4 411), (411, o_push (.int (iI (1))) 412), (412, o_iadd 413), (413, o_sld L xs 414), (414, o_callV M_Mm_count 8 2 417), (417, o_ist 6 419), (419, o_ald 2 420), (420, o_callV M_Mm_thrown 8 1 423), (423, o_ild 5 425), (425, o_icmp_eq 430 428), (428, o_push (.int (iI (0))) 429), (429, o_zret), (430, o_ild 5 432), (432, o_if_ne 447 435), (435, o_ald 3 436), (436, o_push (.int (iI (0))) 437), (437, o_lald 438), (438, o_ild 6 440), (440, o_i2l 441), (441, o_lc_eq 447 445), (445, o_push (.int (iI (0))) 446), (446, o_zret), (447, o_goto 2630)]
theorem k_Lw_law_394 (L : Nat) (xs : Nat → Int32) : ∀ x ∈ T_Lw_law_394 L xs, SP (gS L xs) M_Lw_law x.1 x.2 := by
  obtain ⟨h394, h395, h396, h398, h399, h400, h401, h402, h405, h407, h408, h409⟩ := e0_Lw_law_394
  obtain ⟨h411, h412, h413, h414, h417, h419, h420, h423, h425, h428, h429, h430⟩ := e1_Lw_law_394
  obtain ⟨h432, h435, h436, h437, h438, h440, h441, h442, h445, h446, h447⟩ := e2_Lw_law_394
  refine acP (SP_of (s_aldn (M := M_Lw_law) (pc := 394) (k := 1) h394)) ?_
  refine acP (SP_of (s_aldn (M := M_Lw_law) (pc := 395) (k := 0) h395)) ?_
  refine acP (SP_of (s_ild (M := M_Lw_law) (pc := 396) h396)) ?_
  refine acP (SP_of (s_iconst (M := M_Lw_law) (pc := 398) h398 rfl)) ?_
  refine acP (SP_of (s_iadd (M := M_Lw_law) (pc := 399) h399)) ?_
  refine acP (s_sld (M := M_Lw_law) (pc := 400) h400) ?_
  refine acP (SP_of (s_aldn (M := M_Lw_law) (pc := 401) (k := 3) h401)) ?_
  refine acP (SP_of (s_callW (M := M_Lw_law) (pc := 402) (mc1 := 1) (ms1 := 34) (z_law) h402 rfl q_Lw_count wd1297 wd1298)) ?_
  refine acP (SP_of (s_ist (M := M_Lw_law) (pc := 405) h405 (by decide))) ?_
  refine acP (SP_of (s_aldn (M := M_Lw_law) (pc := 407) (k := 2) h407)) ?_
  refine acP (SP_of (s_aldn (M := M_Lw_law) (pc := 408) (k := 0) h408)) ?_
  refine acP (SP_of (s_ild (M := M_Lw_law) (pc := 409) h409)) ?_
  refine acP (SP_of (s_iconst (M := M_Lw_law) (pc := 411) h411 rfl)) ?_
  refine acP (SP_of (s_iadd (M := M_Lw_law) (pc := 412) h412)) ?_
  refine acP (s_sld (M := M_Lw_law) (pc := 413) h413) ?_
  refine acP (SP_of (s_callV (M := M_Lw_law) (pc := 414) (z_law) h414 q_Mm_count wd2057 wd2058 wd2059 rfl (T := TX8) (N := 29) rfl)) ?_
  refine acP (SP_of (s_ist (M := M_Lw_law) (pc := 417) h417 (by decide))) ?_
  refine acP (SP_of (s_aldn (M := M_Lw_law) (pc := 419) (k := 2) h419)) ?_
  refine acP (SP_of (s_callV (M := M_Lw_law) (pc := 420) (z_law) h420 q_Mm_thrown wd1679 wd1680 wd1681 rfl (T := TX8) (N := 29) rfl)) ?_
  refine acP (SP_of (s_ild (M := M_Lw_law) (pc := 423) h423)) ?_
  refine acP (SP_of (s_icmp_eq (M := M_Lw_law) (pc := 425) h425 (by decide))) ?_
  refine acP (SP_of (s_iconst (M := M_Lw_law) (pc := 428) h428 rfl)) ?_
  refine acP (SP_of (s_zret (M := M_Lw_law) (pc := 429) h429 rfl)) ?_
  refine acP (SP_of (s_ild (M := M_Lw_law) (pc := 430) h430)) ?_
  refine acP (SP_of (s_if_ne (M := M_Lw_law) (pc := 432) h432 (by decide))) ?_
  refine acP (SP_of (s_aldn (M := M_Lw_law) (pc := 435) (k := 3) h435)) ?_
  refine acP (SP_of (s_iconst (M := M_Lw_law) (pc := 436) h436 rfl)) ?_
  refine acP (SP_of (s_lald (M := M_Lw_law) (pc := 437) h437)) ?_
  refine acP (SP_of (s_ild (M := M_Lw_law) (pc := 438) h438)) ?_
  refine acP (SP_of (s_i2l (M := M_Lw_law) (pc := 440) h440)) ?_
  refine acP (SP_of (s_lc_eq (M := M_Lw_law) (pc := 441) h441 h442 (by decide))) ?_
  refine acP (SP_of (s_iconst (M := M_Lw_law) (pc := 445) h445 rfl)) ?_
  refine acP (SP_of (s_zret (M := M_Lw_law) (pc := 446) h446 rfl)) ?_
  refine acP (SP_of (s_goto (M := M_Lw_law) (pc := 447) h447 (by decide))) ?_
  exact acP_nil
theorem e0_Lw_law_450 : decode code 450 = .ok (.aload_n 1, 1) ∧ decode code 451 = .ok (.aload_n 0, 1) ∧ decode code 452 = .ok (.iload 4, 2) ∧ decode code 454 = .ok (.iconst 1, 1) ∧ decode code 455 = .ok (.iadd, 1) ∧ decode code 456 = .ok (.iaload, 1) ∧ decode code 457 = .ok (.aload_n 3, 1) ∧ decode code 458 = .ok (.invokestatic 161, 3) ∧ decode code 461 = .ok (.istore 5, 2) ∧ decode code 463 = .ok (.aload_n 2, 1) ∧ decode code 464 = .ok (.aload_n 0, 1) ∧ decode code 465 = .ok (.iload 4, 2) := by decide +kernel
theorem e1_Lw_law_450 : decode code 467 = .ok (.iconst 1, 1) ∧ decode code 468 = .ok (.iadd, 1) ∧ decode code 469 = .ok (.iaload, 1) ∧ decode code 470 = .ok (.invokevirtual 163, 3) ∧ decode code 473 = .ok (.istore 6, 2) ∧ decode code 475 = .ok (.aload_n 2, 1) ∧ decode code 476 = .ok (.invokevirtual 158, 3) ∧ decode code 479 = .ok (.iload 5, 2) ∧ decode code 481 = .ok (.if_icmp .eq 5, 3) ∧ decode code 484 = .ok (.iconst 0, 1) ∧ decode code 485 = .ok (.ireturn, 1) ∧ decode code 486 = .ok (.iload 5, 2) := by decide +kernel
theorem e2_Lw_law_450 : decode code 488 = .ok (.ifCond .ne 15, 3) ∧ decode code 491 = .ok (.aload_n 3, 1) ∧ decode code 492 = .ok (.iconst 0, 1) ∧ decode code 493 = .ok (.laload, 1) ∧ decode code 494 = .ok (.iload 6, 2) ∧ decode code 496 = .ok (.i2l, 1) ∧ decode code 497 = .ok (.lcmp, 1) ∧ decode code 498 = .ok (.ifCond .eq 5, 3) ∧ decode code 501 = .ok (.iconst 0, 1) ∧ decode code 502 = .ok (.ireturn, 1) ∧ decode code 503 = .ok (.goto 2127, 3) := by decide +kernel
def T_Lw_law_450 (L : Nat) (xs : Nat → Int32) : TT := [(450, o_ald 1 451), (451, o_ald 0 452), (452, o_ild 4 454), (454, o_push (.int (iI (1))) 455), (455, o_iadd 456), (456, o_sld L xs 457), (457, o_ald 3 458), (458, o_callW M_Lw_account 3 1 34 461), (461, o_ist 5 463), (463, o_ald 2 464), (464, o_ald 0 465), (465, o_ild 4 467), (467, o_push (.int (iI (1))) 468), (468, o_iadd 469), (469, o_sld L xs 470), (470, o_callV M_Mm_account 8 2 473), (473, o_ist 6 475), (475, o_ald 2 476), (476, o_callV M_Mm_thrown 8 1 479), (479, o_ild 5 481), (481, o_icmp_eq 486 484), (484, o_push (.int (iI (0))) 485), (485, o_zret), (486, o_ild 5 488), (488, o_if_ne 503 491), (491, o_ald 3 492), (492, o_push (.int (iI (0))) 493), (493, o_lald 494), (494, o_ild 6 496), (496, o_i2l 497), (497, o_lc_eq 503 501), (501, o_push (.int (iI (0))) 502), (502, o_zret), (503, o_goto 2630)]
theorem k_Lw_law_450 (L : Nat) (xs : Nat → Int32) : ∀ x ∈ T_Lw_law_450 L xs, SP (gS L xs) M_Lw_law x.1 x.2 := by
  obtain ⟨h450, h451, h452, h454, h455, h456, h457, h458, h461, h463, h464, h465⟩ := e0_Lw_law_450
  obtain ⟨h467, h468, h469, h470, h473, h475, h476, h479, h481, h484, h485, h486⟩ := e1_Lw_law_450
  obtain ⟨h488, h491, h492, h493, h494, h496, h497, h498, h501, h502, h503⟩ := e2_Lw_law_450
  refine acP (SP_of (s_aldn (M := M_Lw_law) (pc := 450) (k := 1) h450)) ?_
  refine acP (SP_of (s_aldn (M := M_Lw_law) (pc := 451) (k := 0) h451)) ?_
  refine acP (SP_of (s_ild (M := M_Lw_law) (pc := 452) h452)) ?_
  refine acP (SP_of (s_iconst (M := M_Lw_law) (pc := 454) h454 rfl)) ?_
  refine acP (SP_of (s_iadd (M := M_Lw_law) (pc := 455) h455)) ?_
  refine acP (s_sld (M := M_Lw_law) (pc := 456) h456) ?_
  refine acP (SP_of (s_aldn (M := M_Lw_law) (pc := 457) (k := 3) h457)) ?_
  refine acP (SP_of (s_callW (M := M_Lw_law) (pc := 458) (mc1 := 1) (ms1 := 34) (z_law) h458 rfl q_Lw_account wd1327 wd1328)) ?_
  refine acP (SP_of (s_ist (M := M_Lw_law) (pc := 461) h461 (by decide))) ?_
  refine acP (SP_of (s_aldn (M := M_Lw_law) (pc := 463) (k := 2) h463)) ?_
  refine acP (SP_of (s_aldn (M := M_Lw_law) (pc := 464) (k := 0) h464)) ?_
  refine acP (SP_of (s_ild (M := M_Lw_law) (pc := 465) h465)) ?_
  refine acP (SP_of (s_iconst (M := M_Lw_law) (pc := 467) h467 rfl)) ?_
  refine acP (SP_of (s_iadd (M := M_Lw_law) (pc := 468) h468)) ?_
  refine acP (s_sld (M := M_Lw_law) (pc := 469) h469) ?_
  refine acP (SP_of (s_callV (M := M_Lw_law) (pc := 470) (z_law) h470 q_Mm_account wd2066 wd2067 wd2068 rfl (T := TX8) (N := 29) rfl)) ?_
  refine acP (SP_of (s_ist (M := M_Lw_law) (pc := 473) h473 (by decide))) ?_
  refine acP (SP_of (s_aldn (M := M_Lw_law) (pc := 475) (k := 2) h475)) ?_
  refine acP (SP_of (s_callV (M := M_Lw_law) (pc := 476) (z_law) h476 q_Mm_thrown wd1679 wd1680 wd1681 rfl (T := TX8) (N := 29) rfl)) ?_
  refine acP (SP_of (s_ild (M := M_Lw_law) (pc := 479) h479)) ?_
  refine acP (SP_of (s_icmp_eq (M := M_Lw_law) (pc := 481) h481 (by decide))) ?_
  refine acP (SP_of (s_iconst (M := M_Lw_law) (pc := 484) h484 rfl)) ?_
  refine acP (SP_of (s_zret (M := M_Lw_law) (pc := 485) h485 rfl)) ?_
  refine acP (SP_of (s_ild (M := M_Lw_law) (pc := 486) h486)) ?_
  refine acP (SP_of (s_if_ne (M := M_Lw_law) (pc := 488) h488 (by decide))) ?_
  refine acP (SP_of (s_aldn (M := M_Lw_law) (pc := 491) (k := 3) h491)) ?_
  refine acP (SP_of (s_iconst (M := M_Lw_law) (pc := 492) h492 rfl)) ?_
  refine acP (SP_of (s_lald (M := M_Lw_law) (pc := 493) h493)) ?_
  refine acP (SP_of (s_ild (M := M_Lw_law) (pc := 494) h494)) ?_
  refine acP (SP_of (s_i2l (M := M_Lw_law) (pc := 496) h496)) ?_
  refine acP (SP_of (s_lc_eq (M := M_Lw_law) (pc := 497) h497 h498 (by decide))) ?_
  refine acP (SP_of (s_iconst (M := M_Lw_law) (pc := 501) h501 rfl)) ?_
  refine acP (SP_of (s_zret (M := M_Lw_law) (pc := 502) h502 rfl)) ?_
  refine acP (SP_of (s_goto (M := M_Lw_law) (pc := 503) h503 (by decide))) ?_
  exact acP_nil
theorem e0_Lw_law_506 : decode code 506 = .ok (.aload_n 1, 1) ∧ decode code 507 = .ok (.aload_n 0, 1) ∧ decode code 508 = .ok (.iload 4, 2) ∧ decode code 510 = .ok (.iconst 1, 1) ∧ decode code 511 = .ok (.iadd, 1) ∧ decode code 512 = .ok (.iaload, 1) ∧ decode code 513 = .ok (.aload_n 3, 1) ∧ decode code 514 = .ok (.invokestatic 164, 3) ∧ decode code 517 = .ok (.istore 5, 2) ∧ decode code 519 = .ok (.aload_n 2, 1) ∧ decode code 520 = .ok (.aload_n 0, 1) ∧ decode code 521 = .ok (.iload 4, 2) := by decide +kernel
theorem e1_Lw_law_506 : decode code 523 = .ok (.iconst 1, 1) ∧ decode code 524 = .ok (.iadd, 1) ∧ decode code 525 = .ok (.iaload, 1) ∧ decode code 526 = .ok (.invokevirtual 166, 3) ∧ decode code 529 = .ok (.lstore 6, 2) ∧ decode code 531 = .ok (.aload_n 2, 1) ∧ decode code 532 = .ok (.invokevirtual 158, 3) ∧ decode code 535 = .ok (.iload 5, 2) ∧ decode code 537 = .ok (.if_icmp .eq 5, 3) ∧ decode code 540 = .ok (.iconst 0, 1) ∧ decode code 541 = .ok (.ireturn, 1) ∧ decode code 542 = .ok (.iload 5, 2) := by decide +kernel
theorem e2_Lw_law_506 : decode code 544 = .ok (.ifCond .ne 14, 3) ∧ decode code 547 = .ok (.aload_n 3, 1) ∧ decode code 548 = .ok (.iconst 0, 1) ∧ decode code 549 = .ok (.laload, 1) ∧ decode code 550 = .ok (.lload 6, 2) ∧ decode code 552 = .ok (.lcmp, 1) ∧ decode code 553 = .ok (.ifCond .eq 5, 3) ∧ decode code 556 = .ok (.iconst 0, 1) ∧ decode code 557 = .ok (.ireturn, 1) ∧ decode code 558 = .ok (.goto 2072, 3) := by decide +kernel
def T_Lw_law_506 (L : Nat) (xs : Nat → Int32) : TT := [(506, o_ald 1 507), (507, o_ald 0 508), (508, o_ild 4 510), (510, o_push (.int (iI (1))) 511), (511, o_iadd 512), (512, o_sld L xs 513), (513, o_ald 3 514), (514, o_callW M_Lw_bound 3 1 34 517), (517, o_ist 5 519), (519, o_ald 2 520), (520, o_ald 0 521), (521, o_ild 4 523), (523, o_push (.int (iI (1))) 524), (524, o_iadd 525), (525, o_sld L xs 526), (526, o_callV M_Mm_bound 8 2 529), (529, o_lst 6 531), (531, o_ald 2 532), (532, o_callV M_Mm_thrown 8 1 535), (535, o_ild 5 537), (537, o_icmp_eq 542 540), (540, o_push (.int (iI (0))) 541), (541, o_zret), (542, o_ild 5 544), (544, o_if_ne 558 547), (547, o_ald 3 548), (548, o_push (.int (iI (0))) 549), (549, o_lald 550), (550, o_lld 6 552), (552, o_lc_eq 558 556), (556, o_push (.int (iI (0))) 557), (557, o_zret), (558, o_goto 2630)]
theorem k_Lw_law_506 (L : Nat) (xs : Nat → Int32) : ∀ x ∈ T_Lw_law_506 L xs, SP (gS L xs) M_Lw_law x.1 x.2 := by
  obtain ⟨h506, h507, h508, h510, h511, h512, h513, h514, h517, h519, h520, h521⟩ := e0_Lw_law_506
  obtain ⟨h523, h524, h525, h526, h529, h531, h532, h535, h537, h540, h541, h542⟩ := e1_Lw_law_506
  obtain ⟨h544, h547, h548, h549, h550, h552, h553, h556, h557, h558⟩ := e2_Lw_law_506
  refine acP (SP_of (s_aldn (M := M_Lw_law) (pc := 506) (k := 1) h506)) ?_
  refine acP (SP_of (s_aldn (M := M_Lw_law) (pc := 507) (k := 0) h507)) ?_
  refine acP (SP_of (s_ild (M := M_Lw_law) (pc := 508) h508)) ?_
  refine acP (SP_of (s_iconst (M := M_Lw_law) (pc := 510) h510 rfl)) ?_
  refine acP (SP_of (s_iadd (M := M_Lw_law) (pc := 511) h511)) ?_
  refine acP (s_sld (M := M_Lw_law) (pc := 512) h512) ?_
  refine acP (SP_of (s_aldn (M := M_Lw_law) (pc := 513) (k := 3) h513)) ?_
  refine acP (SP_of (s_callW (M := M_Lw_law) (pc := 514) (mc1 := 1) (ms1 := 34) (z_law) h514 rfl q_Lw_bound wd1338 wd1339)) ?_
  refine acP (SP_of (s_ist (M := M_Lw_law) (pc := 517) h517 (by decide))) ?_
  refine acP (SP_of (s_aldn (M := M_Lw_law) (pc := 519) (k := 2) h519)) ?_
  refine acP (SP_of (s_aldn (M := M_Lw_law) (pc := 520) (k := 0) h520)) ?_
  refine acP (SP_of (s_ild (M := M_Lw_law) (pc := 521) h521)) ?_
  refine acP (SP_of (s_iconst (M := M_Lw_law) (pc := 523) h523 rfl)) ?_
  refine acP (SP_of (s_iadd (M := M_Lw_law) (pc := 524) h524)) ?_
  refine acP (s_sld (M := M_Lw_law) (pc := 525) h525) ?_
  refine acP (SP_of (s_callV (M := M_Lw_law) (pc := 526) (z_law) h526 q_Mm_bound wd2071 wd2072 wd2073 rfl (T := TX8) (N := 29) rfl)) ?_
  refine acP (SP_of (s_lst (M := M_Lw_law) (pc := 529) h529 (by decide))) ?_
  refine acP (SP_of (s_aldn (M := M_Lw_law) (pc := 531) (k := 2) h531)) ?_
  refine acP (SP_of (s_callV (M := M_Lw_law) (pc := 532) (z_law) h532 q_Mm_thrown wd1679 wd1680 wd1681 rfl (T := TX8) (N := 29) rfl)) ?_
  refine acP (SP_of (s_ild (M := M_Lw_law) (pc := 535) h535)) ?_
  refine acP (SP_of (s_icmp_eq (M := M_Lw_law) (pc := 537) h537 (by decide))) ?_
  refine acP (SP_of (s_iconst (M := M_Lw_law) (pc := 540) h540 rfl)) ?_
  refine acP (SP_of (s_zret (M := M_Lw_law) (pc := 541) h541 rfl)) ?_
  refine acP (SP_of (s_ild (M := M_Lw_law) (pc := 542) h542)) ?_
  refine acP (SP_of (s_if_ne (M := M_Lw_law) (pc := 544) h544 (by decide))) ?_
  refine acP (SP_of (s_aldn (M := M_Lw_law) (pc := 547) (k := 3) h547)) ?_
  refine acP (SP_of (s_iconst (M := M_Lw_law) (pc := 548) h548 rfl)) ?_
  refine acP (SP_of (s_lald (M := M_Lw_law) (pc := 549) h549)) ?_
  refine acP (SP_of (s_lld (M := M_Lw_law) (pc := 550) h550)) ?_
  refine acP (SP_of (s_lc_eq (M := M_Lw_law) (pc := 552) h552 h553 (by decide))) ?_
  refine acP (SP_of (s_iconst (M := M_Lw_law) (pc := 556) h556 rfl)) ?_
  refine acP (SP_of (s_zret (M := M_Lw_law) (pc := 557) h557 rfl)) ?_
  refine acP (SP_of (s_goto (M := M_Lw_law) (pc := 558) h558 (by decide))) ?_
  exact acP_nil
theorem e0_Lw_law_561 : decode code 561 = .ok (.aload_n 1, 1) ∧ decode code 562 = .ok (.aload_n 0, 1) ∧ decode code 563 = .ok (.iload 4, 2) ∧ decode code 565 = .ok (.iconst 1, 1) ∧ decode code 566 = .ok (.iadd, 1) ∧ decode code 567 = .ok (.iaload, 1) ∧ decode code 568 = .ok (.aload_n 3, 1) ∧ decode code 569 = .ok (.invokestatic 167, 3) ∧ decode code 572 = .ok (.istore 5, 2) ∧ decode code 574 = .ok (.aload_n 2, 1) ∧ decode code 575 = .ok (.aload_n 0, 1) ∧ decode code 576 = .ok (.iload 4, 2) := by decide +kernel
theorem e1_Lw_law_561 : decode code 578 = .ok (.iconst 1, 1) ∧ decode code 579 = .ok (.iadd, 1) ∧ decode code 580 = .ok (.iaload, 1) ∧ decode code 581 = .ok (.invokevirtual 169, 3) ∧ decode code 584 = .ok (.istore 6, 2) ∧ decode code 586 = .ok (.aload_n 2, 1) ∧ decode code 587 = .ok (.invokevirtual 158, 3) ∧ decode code 590 = .ok (.iload 5, 2) ∧ decode code 592 = .ok (.if_icmp .eq 5, 3) ∧ decode code 595 = .ok (.iconst 0, 1) ∧ decode code 596 = .ok (.ireturn, 1) ∧ decode code 597 = .ok (.iload 5, 2) := by decide +kernel
theorem e2_Lw_law_561 : decode code 599 = .ok (.ifCond .ne 15, 3) ∧ decode code 602 = .ok (.aload_n 3, 1) ∧ decode code 603 = .ok (.iconst 0, 1) ∧ decode code 604 = .ok (.laload, 1) ∧ decode code 605 = .ok (.iload 6, 2) ∧ decode code 607 = .ok (.i2l, 1) ∧ decode code 608 = .ok (.lcmp, 1) ∧ decode code 609 = .ok (.ifCond .eq 5, 3) ∧ decode code 612 = .ok (.iconst 0, 1) ∧ decode code 613 = .ok (.ireturn, 1) ∧ decode code 614 = .ok (.goto 2016, 3) := by decide +kernel
def T_Lw_law_561 (L : Nat) (xs : Nat → Int32) : TT := [(561, o_ald 1 562), (562, o_ald 0 563), (563, o_ild 4 565), (565, o_push (.int (iI (1))) 566), (566, o_iadd 567), (567, o_sld L xs 568), (568, o_ald 3 569), (569, o_callW M_Lw_modulus 3 1 34 572), (572, o_ist 5 574), (574, o_ald 2 575), (575, o_ald 0 576), (576, o_ild 4 578), (578, o_push (.int (iI (1))) 579), (579, o_iadd 580), (580, o_sld L xs 581), (581, o_callV M_Mm_modulus 8 2 584), (584, o_ist 6 586), (586, o_ald 2 587), (587, o_callV M_Mm_thrown 8 1 590), (590, o_ild 5 592), (592, o_icmp_eq 597 595), (595, o_push (.int (iI (0))) 596), (596, o_zret), (597, o_ild 5 599), (599, o_if_ne 614 602), (602, o_ald 3 603), (603, o_push (.int (iI (0))) 604), (604, o_lald 605), (605, o_ild 6 607), (607, o_i2l 608), (608, o_lc_eq 614 612), (612, o_push (.int (iI (0))) 613), (613, o_zret), (614, o_goto 2630)]
theorem k_Lw_law_561 (L : Nat) (xs : Nat → Int32) : ∀ x ∈ T_Lw_law_561 L xs, SP (gS L xs) M_Lw_law x.1 x.2 := by
  obtain ⟨h561, h562, h563, h565, h566, h567, h568, h569, h572, h574, h575, h576⟩ := e0_Lw_law_561
  obtain ⟨h578, h579, h580, h581, h584, h586, h587, h590, h592, h595, h596, h597⟩ := e1_Lw_law_561
  obtain ⟨h599, h602, h603, h604, h605, h607, h608, h609, h612, h613, h614⟩ := e2_Lw_law_561
  refine acP (SP_of (s_aldn (M := M_Lw_law) (pc := 561) (k := 1) h561)) ?_
  refine acP (SP_of (s_aldn (M := M_Lw_law) (pc := 562) (k := 0) h562)) ?_
  refine acP (SP_of (s_ild (M := M_Lw_law) (pc := 563) h563)) ?_
  refine acP (SP_of (s_iconst (M := M_Lw_law) (pc := 565) h565 rfl)) ?_
  refine acP (SP_of (s_iadd (M := M_Lw_law) (pc := 566) h566)) ?_
  refine acP (s_sld (M := M_Lw_law) (pc := 567) h567) ?_
  refine acP (SP_of (s_aldn (M := M_Lw_law) (pc := 568) (k := 3) h568)) ?_
  refine acP (SP_of (s_callW (M := M_Lw_law) (pc := 569) (mc1 := 1) (ms1 := 34) (z_law) h569 rfl q_Lw_modulus wd1346 wd1347)) ?_
  refine acP (SP_of (s_ist (M := M_Lw_law) (pc := 572) h572 (by decide))) ?_
  refine acP (SP_of (s_aldn (M := M_Lw_law) (pc := 574) (k := 2) h574)) ?_
  refine acP (SP_of (s_aldn (M := M_Lw_law) (pc := 575) (k := 0) h575)) ?_
  refine acP (SP_of (s_ild (M := M_Lw_law) (pc := 576) h576)) ?_
  refine acP (SP_of (s_iconst (M := M_Lw_law) (pc := 578) h578 rfl)) ?_
  refine acP (SP_of (s_iadd (M := M_Lw_law) (pc := 579) h579)) ?_
  refine acP (s_sld (M := M_Lw_law) (pc := 580) h580) ?_
  refine acP (SP_of (s_callV (M := M_Lw_law) (pc := 581) (z_law) h581 q_Mm_modulus wd2075 wd2076 wd2077 rfl (T := TX8) (N := 29) rfl)) ?_
  refine acP (SP_of (s_ist (M := M_Lw_law) (pc := 584) h584 (by decide))) ?_
  refine acP (SP_of (s_aldn (M := M_Lw_law) (pc := 586) (k := 2) h586)) ?_
  refine acP (SP_of (s_callV (M := M_Lw_law) (pc := 587) (z_law) h587 q_Mm_thrown wd1679 wd1680 wd1681 rfl (T := TX8) (N := 29) rfl)) ?_
  refine acP (SP_of (s_ild (M := M_Lw_law) (pc := 590) h590)) ?_
  refine acP (SP_of (s_icmp_eq (M := M_Lw_law) (pc := 592) h592 (by decide))) ?_
  refine acP (SP_of (s_iconst (M := M_Lw_law) (pc := 595) h595 rfl)) ?_
  refine acP (SP_of (s_zret (M := M_Lw_law) (pc := 596) h596 rfl)) ?_
  refine acP (SP_of (s_ild (M := M_Lw_law) (pc := 597) h597)) ?_
  refine acP (SP_of (s_if_ne (M := M_Lw_law) (pc := 599) h599 (by decide))) ?_
  refine acP (SP_of (s_aldn (M := M_Lw_law) (pc := 602) (k := 3) h602)) ?_
  refine acP (SP_of (s_iconst (M := M_Lw_law) (pc := 603) h603 rfl)) ?_
  refine acP (SP_of (s_lald (M := M_Lw_law) (pc := 604) h604)) ?_
  refine acP (SP_of (s_ild (M := M_Lw_law) (pc := 605) h605)) ?_
  refine acP (SP_of (s_i2l (M := M_Lw_law) (pc := 607) h607)) ?_
  refine acP (SP_of (s_lc_eq (M := M_Lw_law) (pc := 608) h608 h609 (by decide))) ?_
  refine acP (SP_of (s_iconst (M := M_Lw_law) (pc := 612) h612 rfl)) ?_
  refine acP (SP_of (s_zret (M := M_Lw_law) (pc := 613) h613 rfl)) ?_
  refine acP (SP_of (s_goto (M := M_Lw_law) (pc := 614) h614 (by decide))) ?_
  exact acP_nil
theorem e0_Lw_law_617 : decode code 617 = .ok (.aload_n 1, 1) ∧ decode code 618 = .ok (.aload_n 0, 1) ∧ decode code 619 = .ok (.iload 4, 2) ∧ decode code 621 = .ok (.iconst 1, 1) ∧ decode code 622 = .ok (.iadd, 1) ∧ decode code 623 = .ok (.iaload, 1) ∧ decode code 624 = .ok (.aload_n 0, 1) ∧ decode code 625 = .ok (.iload 4, 2) ∧ decode code 627 = .ok (.iconst 2, 1) ∧ decode code 628 = .ok (.iadd, 1) ∧ decode code 629 = .ok (.iaload, 1) ∧ decode code 630 = .ok (.aload_n 3, 1) := by decide +kernel
theorem e1_Lw_law_617 : decode code 631 = .ok (.invokestatic 170, 3) ∧ decode code 634 = .ok (.istore 5, 2) ∧ decode code 636 = .ok (.aload_n 2, 1) ∧ decode code 637 = .ok (.aload_n 0, 1) ∧ decode code 638 = .ok (.iload 4, 2) ∧ decode code 640 = .ok (.iconst 1, 1) ∧ decode code 641 = .ok (.iadd, 1) ∧ decode code 642 = .ok (.iaload, 1) ∧ decode code 643 = .ok (.aload_n 0, 1) ∧ decode code 644 = .ok (.iload 4, 2) ∧ decode code 646 = .ok (.iconst 2, 1) ∧ decode code 647 = .ok (.iadd, 1) := by decide +kernel
theorem e2_Lw_law_617 : decode code 648 = .ok (.iaload, 1) ∧ decode code 649 = .ok (.invokevirtual 173, 3) ∧ decode code 652 = .ok (.istore 6, 2) ∧ decode code 654 = .ok (.aload_n 2, 1) ∧ decode code 655 = .ok (.invokevirtual 158, 3) ∧ decode code 658 = .ok (.iload 5, 2) ∧ decode code 660 = .ok (.if_icmp .eq 5, 3) ∧ decode code 663 = .ok (.iconst 0, 1) ∧ decode code 664 = .ok (.ireturn, 1) ∧ decode code 665 = .ok (.iload 5, 2) ∧ decode code 667 = .ok (.ifCond .ne 15, 3) ∧ decode code 670 = .ok (.aload_n 3, 1) := by decide +kernel
theorem e3_Lw_law_617 : decode code 671 = .ok (.iconst 0, 1) ∧ decode code 672 = .ok (.laload, 1) ∧ decode code 673 = .ok (.iload 6, 2) ∧ decode code 675 = .ok (.i2l, 1) ∧ decode code 676 = .ok (.lcmp, 1) ∧ decode code 677 = .ok (.ifCond .eq 5, 3) ∧ decode code 680 = .ok (.iconst 0, 1) ∧ decode code 681 = .ok (.ireturn, 1) ∧ decode code 682 = .ok (.goto 1948, 3) := by decide +kernel
def T_Lw_law_617 (L : Nat) (xs : Nat → Int32) : TT := [(617, o_ald 1 618), (618, o_ald 0 619), (619, o_ild 4 621), (621, o_push (.int (iI (1))) 622), (622, o_iadd 623), (623, o_sld L xs 624), (624, o_ald 0 625), (625, o_ild 4 627), (627, o_push (.int (iI (2))) 628), (628, o_iadd 629), (629, o_sld L xs 630), (630, o_ald 3 631), (631, o_callW M_Lw_inverse 4 1 34 634), (634, o_ist 5 636), (636, o_ald 2 637), (637, o_ald 0 638), (638, o_ild 4 640), (640, o_push (.int (iI (1))) 641), (641, o_iadd 642), (642, o_sld L xs 643), (643, o_ald 0 644), (644, o_ild 4 646), (646, o_push (.int (iI (2))) 647), (647, o_iadd 648), (648, o_sld L xs 649), (649, o_callV M_Mm_inverse 8 3 652), (652, o_ist 6 654), (654, o_ald 2 655), (655, o_callV M_Mm_thrown 8 1 658), (658, o_ild 5 660), (660, o_icmp_eq 665 663), (663, o_push (.int (iI (0))) 664), (664, o_zret), (665, o_ild 5 667), (667, o_if_ne 682 670), (670, o_ald 3 671), (671, o_push (.int (iI (0))) 672), (672, o_lald 673), (673, o_ild 6 675), (675, o_i2l 676), (676, o_lc_eq 682 680), (680, o_push (.int (iI (0))) 681), (681, o_zret), (682, o_goto 2630)]
theorem k_Lw_law_617 (L : Nat) (xs : Nat → Int32) : ∀ x ∈ T_Lw_law_617 L xs, SP (gS L xs) M_Lw_law x.1 x.2 := by
  obtain ⟨h617, h618, h619, h621, h622, h623, h624, h625, h627, h628, h629, h630⟩ := e0_Lw_law_617
  obtain ⟨h631, h634, h636, h637, h638, h640, h641, h642, h643, h644, h646, h647⟩ := e1_Lw_law_617
  obtain ⟨h648, h649, h652, h654, h655, h658, h660, h663, h664, h665, h667, h670⟩ := e2_Lw_law_617
  obtain ⟨h671, h672, h673, h675, h676, h677, h680, h681, h682⟩ := e3_Lw_law_617
  refine acP (SP_of (s_aldn (M := M_Lw_law) (pc := 617) (k := 1) h617)) ?_
  refine acP (SP_of (s_aldn (M := M_Lw_law) (pc := 618) (k := 0) h618)) ?_
  refine acP (SP_of (s_ild (M := M_Lw_law) (pc := 619) h619)) ?_
  refine acP (SP_of (s_iconst (M := M_Lw_law) (pc := 621) h621 rfl)) ?_
  refine acP (SP_of (s_iadd (M := M_Lw_law) (pc := 622) h622)) ?_
  refine acP (s_sld (M := M_Lw_law) (pc := 623) h623) ?_
  refine acP (SP_of (s_aldn (M := M_Lw_law) (pc := 624) (k := 0) h624)) ?_
  refine acP (SP_of (s_ild (M := M_Lw_law) (pc := 625) h625)) ?_
  refine acP (SP_of (s_iconst (M := M_Lw_law) (pc := 627) h627 rfl)) ?_
  refine acP (SP_of (s_iadd (M := M_Lw_law) (pc := 628) h628)) ?_
  refine acP (s_sld (M := M_Lw_law) (pc := 629) h629) ?_
  refine acP (SP_of (s_aldn (M := M_Lw_law) (pc := 630) (k := 3) h630)) ?_
  refine acP (SP_of (s_callW (M := M_Lw_law) (pc := 631) (mc1 := 1) (ms1 := 34) (z_law) h631 rfl q_Lw_inverse wd1373 wd1374)) ?_
  refine acP (SP_of (s_ist (M := M_Lw_law) (pc := 634) h634 (by decide))) ?_
  refine acP (SP_of (s_aldn (M := M_Lw_law) (pc := 636) (k := 2) h636)) ?_
  refine acP (SP_of (s_aldn (M := M_Lw_law) (pc := 637) (k := 0) h637)) ?_
  refine acP (SP_of (s_ild (M := M_Lw_law) (pc := 638) h638)) ?_
  refine acP (SP_of (s_iconst (M := M_Lw_law) (pc := 640) h640 rfl)) ?_
  refine acP (SP_of (s_iadd (M := M_Lw_law) (pc := 641) h641)) ?_
  refine acP (s_sld (M := M_Lw_law) (pc := 642) h642) ?_
  refine acP (SP_of (s_aldn (M := M_Lw_law) (pc := 643) (k := 0) h643)) ?_
  refine acP (SP_of (s_ild (M := M_Lw_law) (pc := 644) h644)) ?_
  refine acP (SP_of (s_iconst (M := M_Lw_law) (pc := 646) h646 rfl)) ?_
  refine acP (SP_of (s_iadd (M := M_Lw_law) (pc := 647) h647)) ?_
  refine acP (s_sld (M := M_Lw_law) (pc := 648) h648) ?_
  refine acP (SP_of (s_callV (M := M_Lw_law) (pc := 649) (z_law) h649 q_Mm_inverse wd2087 wd2088 wd2089 rfl (T := TX8) (N := 29) rfl)) ?_
  refine acP (SP_of (s_ist (M := M_Lw_law) (pc := 652) h652 (by decide))) ?_
  refine acP (SP_of (s_aldn (M := M_Lw_law) (pc := 654) (k := 2) h654)) ?_
  refine acP (SP_of (s_callV (M := M_Lw_law) (pc := 655) (z_law) h655 q_Mm_thrown wd1679 wd1680 wd1681 rfl (T := TX8) (N := 29) rfl)) ?_
  refine acP (SP_of (s_ild (M := M_Lw_law) (pc := 658) h658)) ?_
  refine acP (SP_of (s_icmp_eq (M := M_Lw_law) (pc := 660) h660 (by decide))) ?_
  refine acP (SP_of (s_iconst (M := M_Lw_law) (pc := 663) h663 rfl)) ?_
  refine acP (SP_of (s_zret (M := M_Lw_law) (pc := 664) h664 rfl)) ?_
  refine acP (SP_of (s_ild (M := M_Lw_law) (pc := 665) h665)) ?_
  refine acP (SP_of (s_if_ne (M := M_Lw_law) (pc := 667) h667 (by decide))) ?_
  refine acP (SP_of (s_aldn (M := M_Lw_law) (pc := 670) (k := 3) h670)) ?_
  refine acP (SP_of (s_iconst (M := M_Lw_law) (pc := 671) h671 rfl)) ?_
  refine acP (SP_of (s_lald (M := M_Lw_law) (pc := 672) h672)) ?_
  refine acP (SP_of (s_ild (M := M_Lw_law) (pc := 673) h673)) ?_
  refine acP (SP_of (s_i2l (M := M_Lw_law) (pc := 675) h675)) ?_
  refine acP (SP_of (s_lc_eq (M := M_Lw_law) (pc := 676) h676 h677 (by decide))) ?_
  refine acP (SP_of (s_iconst (M := M_Lw_law) (pc := 680) h680 rfl)) ?_
  refine acP (SP_of (s_zret (M := M_Lw_law) (pc := 681) h681 rfl)) ?_
  refine acP (SP_of (s_goto (M := M_Lw_law) (pc := 682) h682 (by decide))) ?_
  exact acP_nil
theorem e0_Lw_law_685 : decode code 685 = .ok (.aload_n 1, 1) ∧ decode code 686 = .ok (.aload_n 0, 1) ∧ decode code 687 = .ok (.iload 4, 2) ∧ decode code 689 = .ok (.iconst 1, 1) ∧ decode code 690 = .ok (.iadd, 1) ∧ decode code 691 = .ok (.iaload, 1) ∧ decode code 692 = .ok (.aload_n 3, 1) ∧ decode code 693 = .ok (.invokestatic 174, 3) ∧ decode code 696 = .ok (.istore 5, 2) ∧ decode code 698 = .ok (.aload_n 2, 1) ∧ decode code 699 = .ok (.aload_n 0, 1) ∧ decode code 700 = .ok (.iload 4, 2) := by decide +kernel
theorem e1_Lw_law_685 : decode code 702 = .ok (.iconst 1, 1) ∧ decode code 703 = .ok (.iadd, 1) ∧ decode code 704 = .ok (.iaload, 1) ∧ decode code 705 = .ok (.invokevirtual 176, 3) ∧ decode code 708 = .ok (.lstore 6, 2) ∧ decode code 710 = .ok (.aload_n 2, 1) ∧ decode code 711 = .ok (.invokevirtual 158, 3) ∧ decode code 714 = .ok (.iload 5, 2) ∧ decode code 716 = .ok (.if_icmp .eq 5, 3) ∧ decode code 719 = .ok (.iconst 0, 1) ∧ decode code 720 = .ok (.ireturn, 1) ∧ decode code 721 = .ok (.iload 5, 2) := by decide +kernel
theorem e2_Lw_law_685 : decode code 723 = .ok (.ifCond .ne 14, 3) ∧ decode code 726 = .ok (.aload_n 3, 1) ∧ decode code 727 = .ok (.iconst 0, 1) ∧ decode code 728 = .ok (.laload, 1) ∧ decode code 729 = .ok (.lload 6, 2) ∧ decode code 731 = .ok (.lcmp, 1) ∧ decode code 732 = .ok (.ifCond .eq 5, 3) ∧ decode code 735 = .ok (.iconst 0, 1) ∧ decode code 736 = .ok (.ireturn, 1) ∧ decode code 737 = .ok (.goto 1893, 3) := by decide +kernel
def T_Lw_law_685 (L : Nat) (xs : Nat → Int32) : TT := [(685, o_ald 1 686), (686, o_ald 0 687), (687, o_ild 4 689), (689, o_push (.int (iI (1))) 690), (690, o_iadd 691), (691, o_sld L xs 692), (692, o_ald 3 693), (693, o_callW M_Lw_weight 3 1 34 696), (696, o_ist 5 698), (698, o_ald 2 699), (699, o_ald 0 700), (700, o_ild 4 702), (702, o_push (.int (iI (1))) 703), (703, o_iadd 704), (704, o_sld L xs 705), (705, o_callV M_Mm_weight 8 2 708), (708, o_lst 6 710), (710, o_ald 2 711), (711, o_callV M_Mm_thrown 8 1 714), (714, o_ild 5 716), (716, o_icmp_eq 721 719), (719, o_push (.int (iI (0))) 720), (720, o_zret), (721, o_ild 5 723), (723, o_if_ne 737 726), (726, o_ald 3 727), (727, o_push (.int (iI (0))) 728), (728, o_lald 729), (729, o_lld 6 731), (731, o_lc_eq 737 735), (735, o_push (.int (iI (0))) 736), (736, o_zret), (737, o_goto 2630)]
theorem k_Lw_law_685 (L : Nat) (xs : Nat → Int32) : ∀ x ∈ T_Lw_law_685 L xs, SP (gS L xs) M_Lw_law x.1 x.2 := by
  obtain ⟨h685, h686, h687, h689, h690, h691, h692, h693, h696, h698, h699, h700⟩ := e0_Lw_law_685
  obtain ⟨h702, h703, h704, h705, h708, h710, h711, h714, h716, h719, h720, h721⟩ := e1_Lw_law_685
  obtain ⟨h723, h726, h727, h728, h729, h731, h732, h735, h736, h737⟩ := e2_Lw_law_685
  refine acP (SP_of (s_aldn (M := M_Lw_law) (pc := 685) (k := 1) h685)) ?_
  refine acP (SP_of (s_aldn (M := M_Lw_law) (pc := 686) (k := 0) h686)) ?_
  refine acP (SP_of (s_ild (M := M_Lw_law) (pc := 687) h687)) ?_
  refine acP (SP_of (s_iconst (M := M_Lw_law) (pc := 689) h689 rfl)) ?_
  refine acP (SP_of (s_iadd (M := M_Lw_law) (pc := 690) h690)) ?_
  refine acP (s_sld (M := M_Lw_law) (pc := 691) h691) ?_
  refine acP (SP_of (s_aldn (M := M_Lw_law) (pc := 692) (k := 3) h692)) ?_
  refine acP (SP_of (s_callW (M := M_Lw_law) (pc := 693) (mc1 := 1) (ms1 := 34) (z_law) h693 rfl q_Lw_weight wd1381 wd1382)) ?_
  refine acP (SP_of (s_ist (M := M_Lw_law) (pc := 696) h696 (by decide))) ?_
  refine acP (SP_of (s_aldn (M := M_Lw_law) (pc := 698) (k := 2) h698)) ?_
  refine acP (SP_of (s_aldn (M := M_Lw_law) (pc := 699) (k := 0) h699)) ?_
  refine acP (SP_of (s_ild (M := M_Lw_law) (pc := 700) h700)) ?_
  refine acP (SP_of (s_iconst (M := M_Lw_law) (pc := 702) h702 rfl)) ?_
  refine acP (SP_of (s_iadd (M := M_Lw_law) (pc := 703) h703)) ?_
  refine acP (s_sld (M := M_Lw_law) (pc := 704) h704) ?_
  refine acP (SP_of (s_callV (M := M_Lw_law) (pc := 705) (z_law) h705 q_Mm_weight wd2091 wd2092 wd2093 rfl (T := TX8) (N := 29) rfl)) ?_
  refine acP (SP_of (s_lst (M := M_Lw_law) (pc := 708) h708 (by decide))) ?_
  refine acP (SP_of (s_aldn (M := M_Lw_law) (pc := 710) (k := 2) h710)) ?_
  refine acP (SP_of (s_callV (M := M_Lw_law) (pc := 711) (z_law) h711 q_Mm_thrown wd1679 wd1680 wd1681 rfl (T := TX8) (N := 29) rfl)) ?_
  refine acP (SP_of (s_ild (M := M_Lw_law) (pc := 714) h714)) ?_
  refine acP (SP_of (s_icmp_eq (M := M_Lw_law) (pc := 716) h716 (by decide))) ?_
  refine acP (SP_of (s_iconst (M := M_Lw_law) (pc := 719) h719 rfl)) ?_
  refine acP (SP_of (s_zret (M := M_Lw_law) (pc := 720) h720 rfl)) ?_
  refine acP (SP_of (s_ild (M := M_Lw_law) (pc := 721) h721)) ?_
  refine acP (SP_of (s_if_ne (M := M_Lw_law) (pc := 723) h723 (by decide))) ?_
  refine acP (SP_of (s_aldn (M := M_Lw_law) (pc := 726) (k := 3) h726)) ?_
  refine acP (SP_of (s_iconst (M := M_Lw_law) (pc := 727) h727 rfl)) ?_
  refine acP (SP_of (s_lald (M := M_Lw_law) (pc := 728) h728)) ?_
  refine acP (SP_of (s_lld (M := M_Lw_law) (pc := 729) h729)) ?_
  refine acP (SP_of (s_lc_eq (M := M_Lw_law) (pc := 731) h731 h732 (by decide))) ?_
  refine acP (SP_of (s_iconst (M := M_Lw_law) (pc := 735) h735 rfl)) ?_
  refine acP (SP_of (s_zret (M := M_Lw_law) (pc := 736) h736 rfl)) ?_
  refine acP (SP_of (s_goto (M := M_Lw_law) (pc := 737) h737 (by decide))) ?_
  exact acP_nil
theorem e0_Lw_law_740 : decode code 740 = .ok (.aload_n 1, 1) ∧ decode code 741 = .ok (.aload_n 0, 1) ∧ decode code 742 = .ok (.iload 4, 2) ∧ decode code 744 = .ok (.iconst 1, 1) ∧ decode code 745 = .ok (.iadd, 1) ∧ decode code 746 = .ok (.iaload, 1) ∧ decode code 747 = .ok (.aload_n 0, 1) ∧ decode code 748 = .ok (.iload 4, 2) ∧ decode code 750 = .ok (.iconst 2, 1) ∧ decode code 751 = .ok (.iadd, 1) ∧ decode code 752 = .ok (.iaload, 1) ∧ decode code 753 = .ok (.aload_n 3, 1) := by decide +kernel
theorem e1_Lw_law_740 : decode code 754 = .ok (.invokestatic 177, 3) ∧ decode code 757 = .ok (.istore 5, 2) ∧ decode code 759 = .ok (.aload_n 2, 1) ∧ decode code 760 = .ok (.aload_n 0, 1) ∧ decode code 761 = .ok (.iload 4, 2) ∧ decode code 763 = .ok (.iconst 1, 1) ∧ decode code 764 = .ok (.iadd, 1) ∧ decode code 765 = .ok (.iaload, 1) ∧ decode code 766 = .ok (.aload_n 0, 1) ∧ decode code 767 = .ok (.iload 4, 2) ∧ decode code 769 = .ok (.iconst 2, 1) ∧ decode code 770 = .ok (.iadd, 1) := by decide +kernel
theorem e2_Lw_law_740 : decode code 771 = .ok (.iaload, 1) ∧ decode code 772 = .ok (.invokevirtual 179, 3) ∧ decode code 775 = .ok (.istore 6, 2) ∧ decode code 777 = .ok (.aload_n 2, 1) ∧ decode code 778 = .ok (.invokevirtual 158, 3) ∧ decode code 781 = .ok (.iload 5, 2) ∧ decode code 783 = .ok (.if_icmp .eq 5, 3) ∧ decode code 786 = .ok (.iconst 0, 1) ∧ decode code 787 = .ok (.ireturn, 1) ∧ decode code 788 = .ok (.iload 5, 2) ∧ decode code 790 = .ok (.ifCond .ne 15, 3) ∧ decode code 793 = .ok (.aload_n 3, 1) := by decide +kernel
theorem e3_Lw_law_740 : decode code 794 = .ok (.iconst 0, 1) ∧ decode code 795 = .ok (.laload, 1) ∧ decode code 796 = .ok (.iload 6, 2) ∧ decode code 798 = .ok (.i2l, 1) ∧ decode code 799 = .ok (.lcmp, 1) ∧ decode code 800 = .ok (.ifCond .eq 5, 3) ∧ decode code 803 = .ok (.iconst 0, 1) ∧ decode code 804 = .ok (.ireturn, 1) ∧ decode code 805 = .ok (.goto 1825, 3) := by decide +kernel
def T_Lw_law_740 (L : Nat) (xs : Nat → Int32) : TT := [(740, o_ald 1 741), (741, o_ald 0 742), (742, o_ild 4 744), (744, o_push (.int (iI (1))) 745), (745, o_iadd 746), (746, o_sld L xs 747), (747, o_ald 0 748), (748, o_ild 4 750), (750, o_push (.int (iI (2))) 751), (751, o_iadd 752), (752, o_sld L xs 753), (753, o_ald 3 754), (754, o_callW M_Lw_rest 4 1 34 757), (757, o_ist 5 759), (759, o_ald 2 760), (760, o_ald 0 761), (761, o_ild 4 763), (763, o_push (.int (iI (1))) 764), (764, o_iadd 765), (765, o_sld L xs 766), (766, o_ald 0 767), (767, o_ild 4 769), (769, o_push (.int (iI (2))) 770), (770, o_iadd 771), (771, o_sld L xs 772), (772, o_callV M_Mm_rest_II 8 3 775), (775, o_ist 6 777), (777, o_ald 2 778), (778, o_callV M_Mm_thrown 8 1 781), (781, o_ild 5 783), (783, o_icmp_eq 788 786), (786, o_push (.int (iI (0))) 787), (787, o_zret), (788, o_ild 5 790), (790, o_if_ne 805 793), (793, o_ald 3 794), (794, o_push (.int (iI (0))) 795), (795, o_lald 796), (796, o_ild 6 798), (798, o_i2l 799), (799, o_lc_eq 805 803), (803, o_push (.int (iI (0))) 804), (804, o_zret), (805, o_goto 2630)]
theorem k_Lw_law_740 (L : Nat) (xs : Nat → Int32) : ∀ x ∈ T_Lw_law_740 L xs, SP (gS L xs) M_Lw_law x.1 x.2 := by
  obtain ⟨h740, h741, h742, h744, h745, h746, h747, h748, h750, h751, h752, h753⟩ := e0_Lw_law_740
  obtain ⟨h754, h757, h759, h760, h761, h763, h764, h765, h766, h767, h769, h770⟩ := e1_Lw_law_740
  obtain ⟨h771, h772, h775, h777, h778, h781, h783, h786, h787, h788, h790, h793⟩ := e2_Lw_law_740
  obtain ⟨h794, h795, h796, h798, h799, h800, h803, h804, h805⟩ := e3_Lw_law_740
  refine acP (SP_of (s_aldn (M := M_Lw_law) (pc := 740) (k := 1) h740)) ?_
  refine acP (SP_of (s_aldn (M := M_Lw_law) (pc := 741) (k := 0) h741)) ?_
  refine acP (SP_of (s_ild (M := M_Lw_law) (pc := 742) h742)) ?_
  refine acP (SP_of (s_iconst (M := M_Lw_law) (pc := 744) h744 rfl)) ?_
  refine acP (SP_of (s_iadd (M := M_Lw_law) (pc := 745) h745)) ?_
  refine acP (s_sld (M := M_Lw_law) (pc := 746) h746) ?_
  refine acP (SP_of (s_aldn (M := M_Lw_law) (pc := 747) (k := 0) h747)) ?_
  refine acP (SP_of (s_ild (M := M_Lw_law) (pc := 748) h748)) ?_
  refine acP (SP_of (s_iconst (M := M_Lw_law) (pc := 750) h750 rfl)) ?_
  refine acP (SP_of (s_iadd (M := M_Lw_law) (pc := 751) h751)) ?_
  refine acP (s_sld (M := M_Lw_law) (pc := 752) h752) ?_
  refine acP (SP_of (s_aldn (M := M_Lw_law) (pc := 753) (k := 3) h753)) ?_
  refine acP (SP_of (s_callW (M := M_Lw_law) (pc := 754) (mc1 := 1) (ms1 := 34) (z_law) h754 rfl q_Lw_rest wd1389 wd1390)) ?_
  refine acP (SP_of (s_ist (M := M_Lw_law) (pc := 757) h757 (by decide))) ?_
  refine acP (SP_of (s_aldn (M := M_Lw_law) (pc := 759) (k := 2) h759)) ?_
  refine acP (SP_of (s_aldn (M := M_Lw_law) (pc := 760) (k := 0) h760)) ?_
  refine acP (SP_of (s_ild (M := M_Lw_law) (pc := 761) h761)) ?_
  refine acP (SP_of (s_iconst (M := M_Lw_law) (pc := 763) h763 rfl)) ?_
  refine acP (SP_of (s_iadd (M := M_Lw_law) (pc := 764) h764)) ?_
  refine acP (s_sld (M := M_Lw_law) (pc := 765) h765) ?_
  refine acP (SP_of (s_aldn (M := M_Lw_law) (pc := 766) (k := 0) h766)) ?_
  refine acP (SP_of (s_ild (M := M_Lw_law) (pc := 767) h767)) ?_
  refine acP (SP_of (s_iconst (M := M_Lw_law) (pc := 769) h769 rfl)) ?_
  refine acP (SP_of (s_iadd (M := M_Lw_law) (pc := 770) h770)) ?_
  refine acP (s_sld (M := M_Lw_law) (pc := 771) h771) ?_
  refine acP (SP_of (s_callV (M := M_Lw_law) (pc := 772) (z_law) h772 q_Mm_rest_II wd2099 wd2100 wd2101 rfl (T := TX8) (N := 29) rfl)) ?_
  refine acP (SP_of (s_ist (M := M_Lw_law) (pc := 775) h775 (by decide))) ?_
  refine acP (SP_of (s_aldn (M := M_Lw_law) (pc := 777) (k := 2) h777)) ?_
  refine acP (SP_of (s_callV (M := M_Lw_law) (pc := 778) (z_law) h778 q_Mm_thrown wd1679 wd1680 wd1681 rfl (T := TX8) (N := 29) rfl)) ?_
  refine acP (SP_of (s_ild (M := M_Lw_law) (pc := 781) h781)) ?_
  refine acP (SP_of (s_icmp_eq (M := M_Lw_law) (pc := 783) h783 (by decide))) ?_
  refine acP (SP_of (s_iconst (M := M_Lw_law) (pc := 786) h786 rfl)) ?_
  refine acP (SP_of (s_zret (M := M_Lw_law) (pc := 787) h787 rfl)) ?_
  refine acP (SP_of (s_ild (M := M_Lw_law) (pc := 788) h788)) ?_
  refine acP (SP_of (s_if_ne (M := M_Lw_law) (pc := 790) h790 (by decide))) ?_
  refine acP (SP_of (s_aldn (M := M_Lw_law) (pc := 793) (k := 3) h793)) ?_
  refine acP (SP_of (s_iconst (M := M_Lw_law) (pc := 794) h794 rfl)) ?_
  refine acP (SP_of (s_lald (M := M_Lw_law) (pc := 795) h795)) ?_
  refine acP (SP_of (s_ild (M := M_Lw_law) (pc := 796) h796)) ?_
  refine acP (SP_of (s_i2l (M := M_Lw_law) (pc := 798) h798)) ?_
  refine acP (SP_of (s_lc_eq (M := M_Lw_law) (pc := 799) h799 h800 (by decide))) ?_
  refine acP (SP_of (s_iconst (M := M_Lw_law) (pc := 803) h803 rfl)) ?_
  refine acP (SP_of (s_zret (M := M_Lw_law) (pc := 804) h804 rfl)) ?_
  refine acP (SP_of (s_goto (M := M_Lw_law) (pc := 805) h805 (by decide))) ?_
  exact acP_nil
theorem e0_Lw_law_808 : decode code 808 = .ok (.aload_n 1, 1) ∧ decode code 809 = .ok (.aload_n 0, 1) ∧ decode code 810 = .ok (.iload 4, 2) ∧ decode code 812 = .ok (.iconst 1, 1) ∧ decode code 813 = .ok (.iadd, 1) ∧ decode code 814 = .ok (.iaload, 1) ∧ decode code 815 = .ok (.aload_n 0, 1) ∧ decode code 816 = .ok (.iload 4, 2) ∧ decode code 818 = .ok (.iconst 2, 1) ∧ decode code 819 = .ok (.iadd, 1) ∧ decode code 820 = .ok (.iaload, 1) ∧ decode code 821 = .ok (.aload_n 3, 1) := by decide +kernel
theorem e1_Lw_law_808 : decode code 822 = .ok (.invokestatic 180, 3) ∧ decode code 825 = .ok (.istore 5, 2) ∧ decode code 827 = .ok (.aload_n 2, 1) ∧ decode code 828 = .ok (.aload_n 0, 1) ∧ decode code 829 = .ok (.iload 4, 2) ∧ decode code 831 = .ok (.iconst 1, 1) ∧ decode code 832 = .ok (.iadd, 1) ∧ decode code 833 = .ok (.iaload, 1) ∧ decode code 834 = .ok (.aload_n 0, 1) ∧ decode code 835 = .ok (.iload 4, 2) ∧ decode code 837 = .ok (.iconst 2, 1) ∧ decode code 838 = .ok (.iadd, 1) := by decide +kernel
theorem e2_Lw_law_808 : decode code 839 = .ok (.iaload, 1) ∧ decode code 840 = .ok (.invokevirtual 182, 3) ∧ decode code 843 = .ok (.istore 6, 2) ∧ decode code 845 = .ok (.aload_n 2, 1) ∧ decode code 846 = .ok (.invokevirtual 158, 3) ∧ decode code 849 = .ok (.iload 5, 2) ∧ decode code 851 = .ok (.if_icmp .eq 5, 3) ∧ decode code 854 = .ok (.iconst 0, 1) ∧ decode code 855 = .ok (.ireturn, 1) ∧ decode code 856 = .ok (.iload 5, 2) ∧ decode code 858 = .ok (.ifCond .ne 15, 3) ∧ decode code 861 = .ok (.aload_n 3, 1) := by decide +kernel
theorem e3_Lw_law_808 : decode code 862 = .ok (.iconst 0, 1) ∧ decode code 863 = .ok (.laload, 1) ∧ decode code 864 = .ok (.iload 6, 2) ∧ decode code 866 = .ok (.i2l, 1) ∧ decode code 867 = .ok (.lcmp, 1) ∧ decode code 868 = .ok (.ifCond .eq 5, 3) ∧ decode code 871 = .ok (.iconst 0, 1) ∧ decode code 872 = .ok (.ireturn, 1) ∧ decode code 873 = .ok (.goto 1757, 3) := by decide +kernel
def T_Lw_law_808 (L : Nat) (xs : Nat → Int32) : TT := [(808, o_ald 1 809), (809, o_ald 0 810), (810, o_ild 4 812), (812, o_push (.int (iI (1))) 813), (813, o_iadd 814), (814, o_sld L xs 815), (815, o_ald 0 816), (816, o_ild 4 818), (818, o_push (.int (iI (2))) 819), (819, o_iadd 820), (820, o_sld L xs 821), (821, o_ald 3 822), (822, o_callW M_Lw_digit 4 1 34 825), (825, o_ist 5 827), (827, o_ald 2 828), (828, o_ald 0 829), (829, o_ild 4 831), (831, o_push (.int (iI (1))) 832), (832, o_iadd 833), (833, o_sld L xs 834), (834, o_ald 0 835), (835, o_ild 4 837), (837, o_push (.int (iI (2))) 838), (838, o_iadd 839), (839, o_sld L xs 840), (840, o_callV M_Mm_digit 8 3 843), (843, o_ist 6 845), (845, o_ald 2 846), (846, o_callV M_Mm_thrown 8 1 849), (849, o_ild 5 851), (851, o_icmp_eq 856 854), (854, o_push (.int (iI (0))) 855), (855, o_zret), (856, o_ild 5 858), (858, o_if_ne 873 861), (861, o_ald 3 862), (862, o_push (.int (iI (0))) 863), (863, o_lald 864), (864, o_ild 6 866), (866, o_i2l 867), (867, o_lc_eq 873 871), (871, o_push (.int (iI (0))) 872), (872, o_zret), (873, o_goto 2630)]
theorem k_Lw_law_808 (L : Nat) (xs : Nat → Int32) : ∀ x ∈ T_Lw_law_808 L xs, SP (gS L xs) M_Lw_law x.1 x.2 := by
  obtain ⟨h808, h809, h810, h812, h813, h814, h815, h816, h818, h819, h820, h821⟩ := e0_Lw_law_808
  obtain ⟨h822, h825, h827, h828, h829, h831, h832, h833, h834, h835, h837, h838⟩ := e1_Lw_law_808
  obtain ⟨h839, h840, h843, h845, h846, h849, h851, h854, h855, h856, h858, h861⟩ := e2_Lw_law_808
  obtain ⟨h862, h863, h864, h866, h867, h868, h871, h872, h873⟩ := e3_Lw_law_808
  refine acP (SP_of (s_aldn (M := M_Lw_law) (pc := 808) (k := 1) h808)) ?_
  refine acP (SP_of (s_aldn (M := M_Lw_law) (pc := 809) (k := 0) h809)) ?_
  refine acP (SP_of (s_ild (M := M_Lw_law) (pc := 810) h810)) ?_
  refine acP (SP_of (s_iconst (M := M_Lw_law) (pc := 812) h812 rfl)) ?_
  refine acP (SP_of (s_iadd (M := M_Lw_law) (pc := 813) h813)) ?_
  refine acP (s_sld (M := M_Lw_law) (pc := 814) h814) ?_
  refine acP (SP_of (s_aldn (M := M_Lw_law) (pc := 815) (k := 0) h815)) ?_
  refine acP (SP_of (s_ild (M := M_Lw_law) (pc := 816) h816)) ?_
  refine acP (SP_of (s_iconst (M := M_Lw_law) (pc := 818) h818 rfl)) ?_
  refine acP (SP_of (s_iadd (M := M_Lw_law) (pc := 819) h819)) ?_
  refine acP (s_sld (M := M_Lw_law) (pc := 820) h820) ?_
  refine acP (SP_of (s_aldn (M := M_Lw_law) (pc := 821) (k := 3) h821)) ?_
  refine acP (SP_of (s_callW (M := M_Lw_law) (pc := 822) (mc1 := 1) (ms1 := 34) (z_law) h822 rfl q_Lw_digit wd1401 wd1402)) ?_
  refine acP (SP_of (s_ist (M := M_Lw_law) (pc := 825) h825 (by decide))) ?_
  refine acP (SP_of (s_aldn (M := M_Lw_law) (pc := 827) (k := 2) h827)) ?_
  refine acP (SP_of (s_aldn (M := M_Lw_law) (pc := 828) (k := 0) h828)) ?_
  refine acP (SP_of (s_ild (M := M_Lw_law) (pc := 829) h829)) ?_
  refine acP (SP_of (s_iconst (M := M_Lw_law) (pc := 831) h831 rfl)) ?_
  refine acP (SP_of (s_iadd (M := M_Lw_law) (pc := 832) h832)) ?_
  refine acP (s_sld (M := M_Lw_law) (pc := 833) h833) ?_
  refine acP (SP_of (s_aldn (M := M_Lw_law) (pc := 834) (k := 0) h834)) ?_
  refine acP (SP_of (s_ild (M := M_Lw_law) (pc := 835) h835)) ?_
  refine acP (SP_of (s_iconst (M := M_Lw_law) (pc := 837) h837 rfl)) ?_
  refine acP (SP_of (s_iadd (M := M_Lw_law) (pc := 838) h838)) ?_
  refine acP (s_sld (M := M_Lw_law) (pc := 839) h839) ?_
  refine acP (SP_of (s_callV (M := M_Lw_law) (pc := 840) (z_law) h840 q_Mm_digit wd2111 wd2112 wd2113 rfl (T := TX8) (N := 29) rfl)) ?_
  refine acP (SP_of (s_ist (M := M_Lw_law) (pc := 843) h843 (by decide))) ?_
  refine acP (SP_of (s_aldn (M := M_Lw_law) (pc := 845) (k := 2) h845)) ?_
  refine acP (SP_of (s_callV (M := M_Lw_law) (pc := 846) (z_law) h846 q_Mm_thrown wd1679 wd1680 wd1681 rfl (T := TX8) (N := 29) rfl)) ?_
  refine acP (SP_of (s_ild (M := M_Lw_law) (pc := 849) h849)) ?_
  refine acP (SP_of (s_icmp_eq (M := M_Lw_law) (pc := 851) h851 (by decide))) ?_
  refine acP (SP_of (s_iconst (M := M_Lw_law) (pc := 854) h854 rfl)) ?_
  refine acP (SP_of (s_zret (M := M_Lw_law) (pc := 855) h855 rfl)) ?_
  refine acP (SP_of (s_ild (M := M_Lw_law) (pc := 856) h856)) ?_
  refine acP (SP_of (s_if_ne (M := M_Lw_law) (pc := 858) h858 (by decide))) ?_
  refine acP (SP_of (s_aldn (M := M_Lw_law) (pc := 861) (k := 3) h861)) ?_
  refine acP (SP_of (s_iconst (M := M_Lw_law) (pc := 862) h862 rfl)) ?_
  refine acP (SP_of (s_lald (M := M_Lw_law) (pc := 863) h863)) ?_
  refine acP (SP_of (s_ild (M := M_Lw_law) (pc := 864) h864)) ?_
  refine acP (SP_of (s_i2l (M := M_Lw_law) (pc := 866) h866)) ?_
  refine acP (SP_of (s_lc_eq (M := M_Lw_law) (pc := 867) h867 h868 (by decide))) ?_
  refine acP (SP_of (s_iconst (M := M_Lw_law) (pc := 871) h871 rfl)) ?_
  refine acP (SP_of (s_zret (M := M_Lw_law) (pc := 872) h872 rfl)) ?_
  refine acP (SP_of (s_goto (M := M_Lw_law) (pc := 873) h873 (by decide))) ?_
  exact acP_nil
theorem e0_Lw_law_876 : decode code 876 = .ok (.aload_n 1, 1) ∧ decode code 877 = .ok (.aload_n 0, 1) ∧ decode code 878 = .ok (.iload 4, 2) ∧ decode code 880 = .ok (.iconst 1, 1) ∧ decode code 881 = .ok (.iadd, 1) ∧ decode code 882 = .ok (.iaload, 1) ∧ decode code 883 = .ok (.aload_n 0, 1) ∧ decode code 884 = .ok (.iload 4, 2) ∧ decode code 886 = .ok (.iconst 2, 1) ∧ decode code 887 = .ok (.iadd, 1) ∧ decode code 888 = .ok (.iaload, 1) ∧ decode code 889 = .ok (.aload_n 3, 1) := by decide +kernel
theorem e1_Lw_law_876 : decode code 890 = .ok (.invokestatic 183, 3) ∧ decode code 893 = .ok (.istore 5, 2) ∧ decode code 895 = .ok (.aload_n 2, 1) ∧ decode code 896 = .ok (.aload_n 0, 1) ∧ decode code 897 = .ok (.iload 4, 2) ∧ decode code 899 = .ok (.iconst 1, 1) ∧ decode code 900 = .ok (.iadd, 1) ∧ decode code 901 = .ok (.iaload, 1) ∧ decode code 902 = .ok (.aload_n 0, 1) ∧ decode code 903 = .ok (.iload 4, 2) ∧ decode code 905 = .ok (.iconst 2, 1) ∧ decode code 906 = .ok (.iadd, 1) := by decide +kernel
theorem e2_Lw_law_876 : decode code 907 = .ok (.iaload, 1) ∧ decode code 908 = .ok (.invokevirtual 185, 3) ∧ decode code 911 = .ok (.lstore 6, 2) ∧ decode code 913 = .ok (.aload_n 2, 1) ∧ decode code 914 = .ok (.invokevirtual 158, 3) ∧ decode code 917 = .ok (.iload 5, 2) ∧ decode code 919 = .ok (.if_icmp .eq 5, 3) ∧ decode code 922 = .ok (.iconst 0, 1) ∧ decode code 923 = .ok (.ireturn, 1) ∧ decode code 924 = .ok (.iload 5, 2) ∧ decode code 926 = .ok (.ifCond .ne 14, 3) ∧ decode code 929 = .ok (.aload_n 3, 1) := by decide +kernel
theorem e3_Lw_law_876 : decode code 930 = .ok (.iconst 0, 1) ∧ decode code 931 = .ok (.laload, 1) ∧ decode code 932 = .ok (.lload 6, 2) ∧ decode code 934 = .ok (.lcmp, 1) ∧ decode code 935 = .ok (.ifCond .eq 5, 3) ∧ decode code 938 = .ok (.iconst 0, 1) ∧ decode code 939 = .ok (.ireturn, 1) ∧ decode code 940 = .ok (.goto 1690, 3) := by decide +kernel
def T_Lw_law_876 (L : Nat) (xs : Nat → Int32) : TT := [(876, o_ald 1 877), (877, o_ald 0 878), (878, o_ild 4 880), (880, o_push (.int (iI (1))) 881), (881, o_iadd 882), (882, o_sld L xs 883), (883, o_ald 0 884), (884, o_ild 4 886), (886, o_push (.int (iI (2))) 887), (887, o_iadd 888), (888, o_sld L xs 889), (889, o_ald 3 890), (890, o_callW M_Lw_part 4 1 34 893), (893, o_ist 5 895), (895, o_ald 2 896), (896, o_ald 0 897), (897, o_ild 4 899), (899, o_push (.int (iI (1))) 900), (900, o_iadd 901), (901, o_sld L xs 902), (902, o_ald 0 903), (903, o_ild 4 905), (905, o_push (.int (iI (2))) 906), (906, o_iadd 907), (907, o_sld L xs 908), (908, o_callV M_Mm_part 8 3 911), (911, o_lst 6 913), (913, o_ald 2 914), (914, o_callV M_Mm_thrown 8 1 917), (917, o_ild 5 919), (919, o_icmp_eq 924 922), (922, o_push (.int (iI (0))) 923), (923, o_zret), (924, o_ild 5 926), (926, o_if_ne 940 929), (929, o_ald 3 930), (930, o_push (.int (iI (0))) 931), (931, o_lald 932), (932, o_lld 6 934), (934, o_lc_eq 940 938), (938, o_push (.int (iI (0))) 939), (939, o_zret), (940, o_goto 2630)]
theorem k_Lw_law_876 (L : Nat) (xs : Nat → Int32) : ∀ x ∈ T_Lw_law_876 L xs, SP (gS L xs) M_Lw_law x.1 x.2 := by
  obtain ⟨h876, h877, h878, h880, h881, h882, h883, h884, h886, h887, h888, h889⟩ := e0_Lw_law_876
  obtain ⟨h890, h893, h895, h896, h897, h899, h900, h901, h902, h903, h905, h906⟩ := e1_Lw_law_876
  obtain ⟨h907, h908, h911, h913, h914, h917, h919, h922, h923, h924, h926, h929⟩ := e2_Lw_law_876
  obtain ⟨h930, h931, h932, h934, h935, h938, h939, h940⟩ := e3_Lw_law_876
  refine acP (SP_of (s_aldn (M := M_Lw_law) (pc := 876) (k := 1) h876)) ?_
  refine acP (SP_of (s_aldn (M := M_Lw_law) (pc := 877) (k := 0) h877)) ?_
  refine acP (SP_of (s_ild (M := M_Lw_law) (pc := 878) h878)) ?_
  refine acP (SP_of (s_iconst (M := M_Lw_law) (pc := 880) h880 rfl)) ?_
  refine acP (SP_of (s_iadd (M := M_Lw_law) (pc := 881) h881)) ?_
  refine acP (s_sld (M := M_Lw_law) (pc := 882) h882) ?_
  refine acP (SP_of (s_aldn (M := M_Lw_law) (pc := 883) (k := 0) h883)) ?_
  refine acP (SP_of (s_ild (M := M_Lw_law) (pc := 884) h884)) ?_
  refine acP (SP_of (s_iconst (M := M_Lw_law) (pc := 886) h886 rfl)) ?_
  refine acP (SP_of (s_iadd (M := M_Lw_law) (pc := 887) h887)) ?_
  refine acP (s_sld (M := M_Lw_law) (pc := 888) h888) ?_
  refine acP (SP_of (s_aldn (M := M_Lw_law) (pc := 889) (k := 3) h889)) ?_
  refine acP (SP_of (s_callW (M := M_Lw_law) (pc := 890) (mc1 := 1) (ms1 := 34) (z_law) h890 rfl q_Lw_part wd1409 wd1410)) ?_
  refine acP (SP_of (s_ist (M := M_Lw_law) (pc := 893) h893 (by decide))) ?_
  refine acP (SP_of (s_aldn (M := M_Lw_law) (pc := 895) (k := 2) h895)) ?_
  refine acP (SP_of (s_aldn (M := M_Lw_law) (pc := 896) (k := 0) h896)) ?_
  refine acP (SP_of (s_ild (M := M_Lw_law) (pc := 897) h897)) ?_
  refine acP (SP_of (s_iconst (M := M_Lw_law) (pc := 899) h899 rfl)) ?_
  refine acP (SP_of (s_iadd (M := M_Lw_law) (pc := 900) h900)) ?_
  refine acP (s_sld (M := M_Lw_law) (pc := 901) h901) ?_
  refine acP (SP_of (s_aldn (M := M_Lw_law) (pc := 902) (k := 0) h902)) ?_
  refine acP (SP_of (s_ild (M := M_Lw_law) (pc := 903) h903)) ?_
  refine acP (SP_of (s_iconst (M := M_Lw_law) (pc := 905) h905 rfl)) ?_
  refine acP (SP_of (s_iadd (M := M_Lw_law) (pc := 906) h906)) ?_
  refine acP (s_sld (M := M_Lw_law) (pc := 907) h907) ?_
  refine acP (SP_of (s_callV (M := M_Lw_law) (pc := 908) (z_law) h908 q_Mm_part wd2115 wd2116 wd2117 rfl (T := TX8) (N := 29) rfl)) ?_
  refine acP (SP_of (s_lst (M := M_Lw_law) (pc := 911) h911 (by decide))) ?_
  refine acP (SP_of (s_aldn (M := M_Lw_law) (pc := 913) (k := 2) h913)) ?_
  refine acP (SP_of (s_callV (M := M_Lw_law) (pc := 914) (z_law) h914 q_Mm_thrown wd1679 wd1680 wd1681 rfl (T := TX8) (N := 29) rfl)) ?_
  refine acP (SP_of (s_ild (M := M_Lw_law) (pc := 917) h917)) ?_
  refine acP (SP_of (s_icmp_eq (M := M_Lw_law) (pc := 919) h919 (by decide))) ?_
  refine acP (SP_of (s_iconst (M := M_Lw_law) (pc := 922) h922 rfl)) ?_
  refine acP (SP_of (s_zret (M := M_Lw_law) (pc := 923) h923 rfl)) ?_
  refine acP (SP_of (s_ild (M := M_Lw_law) (pc := 924) h924)) ?_
  refine acP (SP_of (s_if_ne (M := M_Lw_law) (pc := 926) h926 (by decide))) ?_
  refine acP (SP_of (s_aldn (M := M_Lw_law) (pc := 929) (k := 3) h929)) ?_
  refine acP (SP_of (s_iconst (M := M_Lw_law) (pc := 930) h930 rfl)) ?_
  refine acP (SP_of (s_lald (M := M_Lw_law) (pc := 931) h931)) ?_
  refine acP (SP_of (s_lld (M := M_Lw_law) (pc := 932) h932)) ?_
  refine acP (SP_of (s_lc_eq (M := M_Lw_law) (pc := 934) h934 h935 (by decide))) ?_
  refine acP (SP_of (s_iconst (M := M_Lw_law) (pc := 938) h938 rfl)) ?_
  refine acP (SP_of (s_zret (M := M_Lw_law) (pc := 939) h939 rfl)) ?_
  refine acP (SP_of (s_goto (M := M_Lw_law) (pc := 940) h940 (by decide))) ?_
  exact acP_nil
theorem e0_Lw_law_943 : decode code 943 = .ok (.aload_n 1, 1) ∧ decode code 944 = .ok (.aload_n 0, 1) ∧ decode code 945 = .ok (.iload 4, 2) ∧ decode code 947 = .ok (.iconst 1, 1) ∧ decode code 948 = .ok (.iadd, 1) ∧ decode code 949 = .ok (.iaload, 1) ∧ decode code 950 = .ok (.aload_n 3, 1) ∧ decode code 951 = .ok (.invokestatic 186, 3) ∧ decode code 954 = .ok (.istore 5, 2) ∧ decode code 956 = .ok (.aload_n 2, 1) ∧ decode code 957 = .ok (.aload_n 0, 1) ∧ decode code 958 = .ok (.iload 4, 2) := by decide +kernel
theorem e1_Lw_law_943 : decode code 960 = .ok (.iconst 1, 1) ∧ decode code 961 = .ok (.iadd, 1) ∧ decode code 962 = .ok (.iaload, 1) ∧ decode code 963 = .ok (.invokevirtual 188, 3) ∧ decode code 966 = .ok (.istore 6, 2) ∧ decode code 968 = .ok (.aload_n 2, 1) ∧ decode code 969 = .ok (.invokevirtual 158, 3) ∧ decode code 972 = .ok (.iload 5, 2) ∧ decode code 974 = .ok (.if_icmp .eq 5, 3) ∧ decode code 977 = .ok (.iconst 0, 1) ∧ decode code 978 = .ok (.ireturn, 1) ∧ decode code 979 = .ok (.iload 5, 2) := by decide +kernel
theorem e2_Lw_law_943 : decode code 981 = .ok (.ifCond .ne 15, 3) ∧ decode code 984 = .ok (.aload_n 3, 1) ∧ decode code 985 = .ok (.iconst 0, 1) ∧ decode code 986 = .ok (.laload, 1) ∧ decode code 987 = .ok (.iload 6, 2) ∧ decode code 989 = .ok (.i2l, 1) ∧ decode code 990 = .ok (.lcmp, 1) ∧ decode code 991 = .ok (.ifCond .eq 5, 3) ∧ decode code 994 = .ok (.iconst 0, 1) ∧ decode code 995 = .ok (.ireturn, 1) ∧ decode code 996 = .ok (.goto 1634, 3) := by decide +kernel
def T_Lw_law_943 (L : Nat) (xs : Nat → Int32) : TT := [(943, o_ald 1 944), (944, o_ald 0 945), (945, o_ild 4 947), (947, o_push (.int (iI (1))) 948), (948, o_iadd 949), (949, o_sld L xs 950), (950, o_ald 3 951), (951, o_callW M_Lw_rank 3 1 34 954), (954, o_ist 5 956), (956, o_ald 2 957), (957, o_ald 0 958), (958, o_ild 4 960), (960, o_push (.int (iI (1))) 961), (961, o_iadd 962), (962, o_sld L xs 963), (963, o_callV M_Mm_rank 8 2 966), (966, o_ist 6 968), (968, o_ald 2 969), (969, o_callV M_Mm_thrown 8 1 972), (972, o_ild 5 974), (974, o_icmp_eq 979 977), (977, o_push (.int (iI (0))) 978), (978, o_zret), (979, o_ild 5 981), (981, o_if_ne 996 984), (984, o_ald 3 985), (985, o_push (.int (iI (0))) 986), (986, o_lald 987), (987, o_ild 6 989), (989, o_i2l 990), (990, o_lc_eq 996 994), (994, o_push (.int (iI (0))) 995), (995, o_zret), (996, o_goto 2630)]
theorem k_Lw_law_943 (L : Nat) (xs : Nat → Int32) : ∀ x ∈ T_Lw_law_943 L xs, SP (gS L xs) M_Lw_law x.1 x.2 := by
  obtain ⟨h943, h944, h945, h947, h948, h949, h950, h951, h954, h956, h957, h958⟩ := e0_Lw_law_943
  obtain ⟨h960, h961, h962, h963, h966, h968, h969, h972, h974, h977, h978, h979⟩ := e1_Lw_law_943
  obtain ⟨h981, h984, h985, h986, h987, h989, h990, h991, h994, h995, h996⟩ := e2_Lw_law_943
  refine acP (SP_of (s_aldn (M := M_Lw_law) (pc := 943) (k := 1) h943)) ?_
  refine acP (SP_of (s_aldn (M := M_Lw_law) (pc := 944) (k := 0) h944)) ?_
  refine acP (SP_of (s_ild (M := M_Lw_law) (pc := 945) h945)) ?_
  refine acP (SP_of (s_iconst (M := M_Lw_law) (pc := 947) h947 rfl)) ?_
  refine acP (SP_of (s_iadd (M := M_Lw_law) (pc := 948) h948)) ?_
  refine acP (s_sld (M := M_Lw_law) (pc := 949) h949) ?_
  refine acP (SP_of (s_aldn (M := M_Lw_law) (pc := 950) (k := 3) h950)) ?_
  refine acP (SP_of (s_callW (M := M_Lw_law) (pc := 951) (mc1 := 1) (ms1 := 34) (z_law) h951 rfl q_Lw_rank wd1417 wd1418)) ?_
  refine acP (SP_of (s_ist (M := M_Lw_law) (pc := 954) h954 (by decide))) ?_
  refine acP (SP_of (s_aldn (M := M_Lw_law) (pc := 956) (k := 2) h956)) ?_
  refine acP (SP_of (s_aldn (M := M_Lw_law) (pc := 957) (k := 0) h957)) ?_
  refine acP (SP_of (s_ild (M := M_Lw_law) (pc := 958) h958)) ?_
  refine acP (SP_of (s_iconst (M := M_Lw_law) (pc := 960) h960 rfl)) ?_
  refine acP (SP_of (s_iadd (M := M_Lw_law) (pc := 961) h961)) ?_
  refine acP (s_sld (M := M_Lw_law) (pc := 962) h962) ?_
  refine acP (SP_of (s_callV (M := M_Lw_law) (pc := 963) (z_law) h963 q_Mm_rank wd2123 wd2124 wd2125 rfl (T := TX8) (N := 29) rfl)) ?_
  refine acP (SP_of (s_ist (M := M_Lw_law) (pc := 966) h966 (by decide))) ?_
  refine acP (SP_of (s_aldn (M := M_Lw_law) (pc := 968) (k := 2) h968)) ?_
  refine acP (SP_of (s_callV (M := M_Lw_law) (pc := 969) (z_law) h969 q_Mm_thrown wd1679 wd1680 wd1681 rfl (T := TX8) (N := 29) rfl)) ?_
  refine acP (SP_of (s_ild (M := M_Lw_law) (pc := 972) h972)) ?_
  refine acP (SP_of (s_icmp_eq (M := M_Lw_law) (pc := 974) h974 (by decide))) ?_
  refine acP (SP_of (s_iconst (M := M_Lw_law) (pc := 977) h977 rfl)) ?_
  refine acP (SP_of (s_zret (M := M_Lw_law) (pc := 978) h978 rfl)) ?_
  refine acP (SP_of (s_ild (M := M_Lw_law) (pc := 979) h979)) ?_
  refine acP (SP_of (s_if_ne (M := M_Lw_law) (pc := 981) h981 (by decide))) ?_
  refine acP (SP_of (s_aldn (M := M_Lw_law) (pc := 984) (k := 3) h984)) ?_
  refine acP (SP_of (s_iconst (M := M_Lw_law) (pc := 985) h985 rfl)) ?_
  refine acP (SP_of (s_lald (M := M_Lw_law) (pc := 986) h986)) ?_
  refine acP (SP_of (s_ild (M := M_Lw_law) (pc := 987) h987)) ?_
  refine acP (SP_of (s_i2l (M := M_Lw_law) (pc := 989) h989)) ?_
  refine acP (SP_of (s_lc_eq (M := M_Lw_law) (pc := 990) h990 h991 (by decide))) ?_
  refine acP (SP_of (s_iconst (M := M_Lw_law) (pc := 994) h994 rfl)) ?_
  refine acP (SP_of (s_zret (M := M_Lw_law) (pc := 995) h995 rfl)) ?_
  refine acP (SP_of (s_goto (M := M_Lw_law) (pc := 996) h996 (by decide))) ?_
  exact acP_nil
theorem e0_Lw_law_999 : decode code 999 = .ok (.aload_n 1, 1) ∧ decode code 1000 = .ok (.aload_n 0, 1) ∧ decode code 1001 = .ok (.iload 4, 2) ∧ decode code 1003 = .ok (.iconst 1, 1) ∧ decode code 1004 = .ok (.iadd, 1) ∧ decode code 1005 = .ok (.iaload, 1) ∧ decode code 1006 = .ok (.aload_n 3, 1) ∧ decode code 1007 = .ok (.invokestatic 189, 3) ∧ decode code 1010 = .ok (.istore 5, 2) ∧ decode code 1012 = .ok (.aload_n 2, 1) ∧ decode code 1013 = .ok (.aload_n 0, 1) ∧ decode code 1014 = .ok (.iload 4, 2) := by decide +kernel
theorem e1_Lw_law_999 : decode code 1016 = .ok (.iconst 1, 1) ∧ decode code 1017 = .ok (.iadd, 1) ∧ decode code 1018 = .ok (.iaload, 1) ∧ decode code 1019 = .ok (.invokevirtual 191, 3) ∧ decode code 1022 = .ok (.lstore 6, 2) ∧ decode code 1024 = .ok (.aload_n 2, 1) ∧ decode code 1025 = .ok (.invokevirtual 158, 3) ∧ decode code 1028 = .ok (.iload 5, 2) ∧ decode code 1030 = .ok (.if_icmp .eq 5, 3) ∧ decode code 1033 = .ok (.iconst 0, 1) ∧ decode code 1034 = .ok (.ireturn, 1) ∧ decode code 1035 = .ok (.iload 5, 2) := by decide +kernel
theorem e2_Lw_law_999 : decode code 1037 = .ok (.ifCond .ne 14, 3) ∧ decode code 1040 = .ok (.aload_n 3, 1) ∧ decode code 1041 = .ok (.iconst 0, 1) ∧ decode code 1042 = .ok (.laload, 1) ∧ decode code 1043 = .ok (.lload 6, 2) ∧ decode code 1045 = .ok (.lcmp, 1) ∧ decode code 1046 = .ok (.ifCond .eq 5, 3) ∧ decode code 1049 = .ok (.iconst 0, 1) ∧ decode code 1050 = .ok (.ireturn, 1) ∧ decode code 1051 = .ok (.goto 1579, 3) := by decide +kernel
def T_Lw_law_999 (L : Nat) (xs : Nat → Int32) : TT := [(999, o_ald 1 1000), (1000, o_ald 0 1001), (1001, o_ild 4 1003), (1003, o_push (.int (iI (1))) 1004), (1004, o_iadd 1005), (1005, o_sld L xs 1006), (1006, o_ald 3 1007), (1007, o_callW M_Lw_value 3 1 34 1010), (1010, o_ist 5 1012), (1012, o_ald 2 1013), (1013, o_ald 0 1014), (1014, o_ild 4 1016), (1016, o_push (.int (iI (1))) 1017), (1017, o_iadd 1018), (1018, o_sld L xs 1019), (1019, o_callV M_Mm_value 8 2 1022), (1022, o_lst 6 1024), (1024, o_ald 2 1025), (1025, o_callV M_Mm_thrown 8 1 1028), (1028, o_ild 5 1030), (1030, o_icmp_eq 1035 1033), (1033, o_push (.int (iI (0))) 1034), (1034, o_zret), (1035, o_ild 5 1037), (1037, o_if_ne 1051 1040), (1040, o_ald 3 1041), (1041, o_push (.int (iI (0))) 1042), (1042, o_lald 1043), (1043, o_lld 6 1045), (1045, o_lc_eq 1051 1049), (1049, o_push (.int (iI (0))) 1050), (1050, o_zret), (1051, o_goto 2630)]
theorem k_Lw_law_999 (L : Nat) (xs : Nat → Int32) : ∀ x ∈ T_Lw_law_999 L xs, SP (gS L xs) M_Lw_law x.1 x.2 := by
  obtain ⟨h999, h1000, h1001, h1003, h1004, h1005, h1006, h1007, h1010, h1012, h1013, h1014⟩ := e0_Lw_law_999
  obtain ⟨h1016, h1017, h1018, h1019, h1022, h1024, h1025, h1028, h1030, h1033, h1034, h1035⟩ := e1_Lw_law_999
  obtain ⟨h1037, h1040, h1041, h1042, h1043, h1045, h1046, h1049, h1050, h1051⟩ := e2_Lw_law_999
  refine acP (SP_of (s_aldn (M := M_Lw_law) (pc := 999) (k := 1) h999)) ?_
  refine acP (SP_of (s_aldn (M := M_Lw_law) (pc := 1000) (k := 0) h1000)) ?_
  refine acP (SP_of (s_ild (M := M_Lw_law) (pc := 1001) h1001)) ?_
  refine acP (SP_of (s_iconst (M := M_Lw_law) (pc := 1003) h1003 rfl)) ?_
  refine acP (SP_of (s_iadd (M := M_Lw_law) (pc := 1004) h1004)) ?_
  refine acP (s_sld (M := M_Lw_law) (pc := 1005) h1005) ?_
  refine acP (SP_of (s_aldn (M := M_Lw_law) (pc := 1006) (k := 3) h1006)) ?_
  refine acP (SP_of (s_callW (M := M_Lw_law) (pc := 1007) (mc1 := 1) (ms1 := 34) (z_law) h1007 rfl q_Lw_value wd1424 wd1425)) ?_
  refine acP (SP_of (s_ist (M := M_Lw_law) (pc := 1010) h1010 (by decide))) ?_
  refine acP (SP_of (s_aldn (M := M_Lw_law) (pc := 1012) (k := 2) h1012)) ?_
  refine acP (SP_of (s_aldn (M := M_Lw_law) (pc := 1013) (k := 0) h1013)) ?_
  refine acP (SP_of (s_ild (M := M_Lw_law) (pc := 1014) h1014)) ?_
  refine acP (SP_of (s_iconst (M := M_Lw_law) (pc := 1016) h1016 rfl)) ?_
  refine acP (SP_of (s_iadd (M := M_Lw_law) (pc := 1017) h1017)) ?_
  refine acP (s_sld (M := M_Lw_law) (pc := 1018) h1018) ?_
  refine acP (SP_of (s_callV (M := M_Lw_law) (pc := 1019) (z_law) h1019 q_Mm_value wd2135 wd2136 wd2137 rfl (T := TX8) (N := 29) rfl)) ?_
  refine acP (SP_of (s_lst (M := M_Lw_law) (pc := 1022) h1022 (by decide))) ?_
  refine acP (SP_of (s_aldn (M := M_Lw_law) (pc := 1024) (k := 2) h1024)) ?_
  refine acP (SP_of (s_callV (M := M_Lw_law) (pc := 1025) (z_law) h1025 q_Mm_thrown wd1679 wd1680 wd1681 rfl (T := TX8) (N := 29) rfl)) ?_
  refine acP (SP_of (s_ild (M := M_Lw_law) (pc := 1028) h1028)) ?_
  refine acP (SP_of (s_icmp_eq (M := M_Lw_law) (pc := 1030) h1030 (by decide))) ?_
  refine acP (SP_of (s_iconst (M := M_Lw_law) (pc := 1033) h1033 rfl)) ?_
  refine acP (SP_of (s_zret (M := M_Lw_law) (pc := 1034) h1034 rfl)) ?_
  refine acP (SP_of (s_ild (M := M_Lw_law) (pc := 1035) h1035)) ?_
  refine acP (SP_of (s_if_ne (M := M_Lw_law) (pc := 1037) h1037 (by decide))) ?_
  refine acP (SP_of (s_aldn (M := M_Lw_law) (pc := 1040) (k := 3) h1040)) ?_
  refine acP (SP_of (s_iconst (M := M_Lw_law) (pc := 1041) h1041 rfl)) ?_
  refine acP (SP_of (s_lald (M := M_Lw_law) (pc := 1042) h1042)) ?_
  refine acP (SP_of (s_lld (M := M_Lw_law) (pc := 1043) h1043)) ?_
  refine acP (SP_of (s_lc_eq (M := M_Lw_law) (pc := 1045) h1045 h1046 (by decide))) ?_
  refine acP (SP_of (s_iconst (M := M_Lw_law) (pc := 1049) h1049 rfl)) ?_
  refine acP (SP_of (s_zret (M := M_Lw_law) (pc := 1050) h1050 rfl)) ?_
  refine acP (SP_of (s_goto (M := M_Lw_law) (pc := 1051) h1051 (by decide))) ?_
  exact acP_nil
theorem e0_Lw_law_1054 : decode code 1054 = .ok (.aload_n 1, 1) ∧ decode code 1055 = .ok (.aload_n 0, 1) ∧ decode code 1056 = .ok (.iload 4, 2) ∧ decode code 1058 = .ok (.iconst 1, 1) ∧ decode code 1059 = .ok (.iadd, 1) ∧ decode code 1060 = .ok (.iaload, 1) ∧ decode code 1061 = .ok (.aload_n 3, 1) ∧ decode code 1062 = .ok (.invokestatic 192, 3) ∧ decode code 1065 = .ok (.istore 5, 2) ∧ decode code 1067 = .ok (.aload_n 2, 1) ∧ decode code 1068 = .ok (.aload_n 0, 1) ∧ decode code 1069 = .ok (.iload 4, 2) := by decide +kernel
theorem e1_Lw_law_1054 : decode code 1071 = .ok (.iconst 1, 1) ∧ decode code 1072 = .ok (.iadd, 1) ∧ decode code 1073 = .ok (.iaload, 1) ∧ decode code 1074 = .ok (.invokevirtual 194, 3) ∧ decode code 1077 = .ok (.lstore 6, 2) ∧ decode code 1079 = .ok (.aload_n 2, 1) ∧ decode code 1080 = .ok (.invokevirtual 158, 3) ∧ decode code 1083 = .ok (.iload 5, 2) ∧ decode code 1085 = .ok (.if_icmp .eq 5, 3) ∧ decode code 1088 = .ok (.iconst 0, 1) ∧ decode code 1089 = .ok (.ireturn, 1) ∧ decode code 1090 = .ok (.iload 5, 2) := by decide +kernel
theorem e2_Lw_law_1054 : decode code 1092 = .ok (.ifCond .ne 14, 3) ∧ decode code 1095 = .ok (.aload_n 3, 1) ∧ decode code 1096 = .ok (.iconst 0, 1) ∧ decode code 1097 = .ok (.laload, 1) ∧ decode code 1098 = .ok (.lload 6, 2) ∧ decode code 1100 = .ok (.lcmp, 1) ∧ decode code 1101 = .ok (.ifCond .eq 5, 3) ∧ decode code 1104 = .ok (.iconst 0, 1) ∧ decode code 1105 = .ok (.ireturn, 1) ∧ decode code 1106 = .ok (.goto 1524, 3) := by decide +kernel
def T_Lw_law_1054 (L : Nat) (xs : Nat → Int32) : TT := [(1054, o_ald 1 1055), (1055, o_ald 0 1056), (1056, o_ild 4 1058), (1058, o_push (.int (iI (1))) 1059), (1059, o_iadd 1060), (1060, o_sld L xs 1061), (1061, o_ald 3 1062), (1062, o_callW M_Lw_number 3 1 34 1065), (1065, o_ist 5 1067), (1067, o_ald 2 1068), (1068, o_ald 0 1069), (1069, o_ild 4 1071), (1071, o_push (.int (iI (1))) 1072), (1072, o_iadd 1073), (1073, o_sld L xs 1074), (1074, o_callV M_Mm_number_I 8 2 1077), (1077, o_lst 6 1079), (1079, o_ald 2 1080), (1080, o_callV M_Mm_thrown 8 1 1083), (1083, o_ild 5 1085), (1085, o_icmp_eq 1090 1088), (1088, o_push (.int (iI (0))) 1089), (1089, o_zret), (1090, o_ild 5 1092), (1092, o_if_ne 1106 1095), (1095, o_ald 3 1096), (1096, o_push (.int (iI (0))) 1097), (1097, o_lald 1098), (1098, o_lld 6 1100), (1100, o_lc_eq 1106 1104), (1104, o_push (.int (iI (0))) 1105), (1105, o_zret), (1106, o_goto 2630)]
theorem k_Lw_law_1054 (L : Nat) (xs : Nat → Int32) : ∀ x ∈ T_Lw_law_1054 L xs, SP (gS L xs) M_Lw_law x.1 x.2 := by
  obtain ⟨h1054, h1055, h1056, h1058, h1059, h1060, h1061, h1062, h1065, h1067, h1068, h1069⟩ := e0_Lw_law_1054
  obtain ⟨h1071, h1072, h1073, h1074, h1077, h1079, h1080, h1083, h1085, h1088, h1089, h1090⟩ := e1_Lw_law_1054
  obtain ⟨h1092, h1095, h1096, h1097, h1098, h1100, h1101, h1104, h1105, h1106⟩ := e2_Lw_law_1054
  refine acP (SP_of (s_aldn (M := M_Lw_law) (pc := 1054) (k := 1) h1054)) ?_
  refine acP (SP_of (s_aldn (M := M_Lw_law) (pc := 1055) (k := 0) h1055)) ?_
  refine acP (SP_of (s_ild (M := M_Lw_law) (pc := 1056) h1056)) ?_
  refine acP (SP_of (s_iconst (M := M_Lw_law) (pc := 1058) h1058 rfl)) ?_
  refine acP (SP_of (s_iadd (M := M_Lw_law) (pc := 1059) h1059)) ?_
  refine acP (s_sld (M := M_Lw_law) (pc := 1060) h1060) ?_
  refine acP (SP_of (s_aldn (M := M_Lw_law) (pc := 1061) (k := 3) h1061)) ?_
  refine acP (SP_of (s_callW (M := M_Lw_law) (pc := 1062) (mc1 := 1) (ms1 := 34) (z_law) h1062 rfl q_Lw_number wd1432 wd1433)) ?_
  refine acP (SP_of (s_ist (M := M_Lw_law) (pc := 1065) h1065 (by decide))) ?_
  refine acP (SP_of (s_aldn (M := M_Lw_law) (pc := 1067) (k := 2) h1067)) ?_
  refine acP (SP_of (s_aldn (M := M_Lw_law) (pc := 1068) (k := 0) h1068)) ?_
  refine acP (SP_of (s_ild (M := M_Lw_law) (pc := 1069) h1069)) ?_
  refine acP (SP_of (s_iconst (M := M_Lw_law) (pc := 1071) h1071 rfl)) ?_
  refine acP (SP_of (s_iadd (M := M_Lw_law) (pc := 1072) h1072)) ?_
  refine acP (s_sld (M := M_Lw_law) (pc := 1073) h1073) ?_
  refine acP (SP_of (s_callV (M := M_Lw_law) (pc := 1074) (z_law) h1074 q_Mm_number_I wd2139 wd2140 wd2141 rfl (T := TX8) (N := 29) rfl)) ?_
  refine acP (SP_of (s_lst (M := M_Lw_law) (pc := 1077) h1077 (by decide))) ?_
  refine acP (SP_of (s_aldn (M := M_Lw_law) (pc := 1079) (k := 2) h1079)) ?_
  refine acP (SP_of (s_callV (M := M_Lw_law) (pc := 1080) (z_law) h1080 q_Mm_thrown wd1679 wd1680 wd1681 rfl (T := TX8) (N := 29) rfl)) ?_
  refine acP (SP_of (s_ild (M := M_Lw_law) (pc := 1083) h1083)) ?_
  refine acP (SP_of (s_icmp_eq (M := M_Lw_law) (pc := 1085) h1085 (by decide))) ?_
  refine acP (SP_of (s_iconst (M := M_Lw_law) (pc := 1088) h1088 rfl)) ?_
  refine acP (SP_of (s_zret (M := M_Lw_law) (pc := 1089) h1089 rfl)) ?_
  refine acP (SP_of (s_ild (M := M_Lw_law) (pc := 1090) h1090)) ?_
  refine acP (SP_of (s_if_ne (M := M_Lw_law) (pc := 1092) h1092 (by decide))) ?_
  refine acP (SP_of (s_aldn (M := M_Lw_law) (pc := 1095) (k := 3) h1095)) ?_
  refine acP (SP_of (s_iconst (M := M_Lw_law) (pc := 1096) h1096 rfl)) ?_
  refine acP (SP_of (s_lald (M := M_Lw_law) (pc := 1097) h1097)) ?_
  refine acP (SP_of (s_lld (M := M_Lw_law) (pc := 1098) h1098)) ?_
  refine acP (SP_of (s_lc_eq (M := M_Lw_law) (pc := 1100) h1100 h1101 (by decide))) ?_
  refine acP (SP_of (s_iconst (M := M_Lw_law) (pc := 1104) h1104 rfl)) ?_
  refine acP (SP_of (s_zret (M := M_Lw_law) (pc := 1105) h1105 rfl)) ?_
  refine acP (SP_of (s_goto (M := M_Lw_law) (pc := 1106) h1106 (by decide))) ?_
  exact acP_nil
theorem e0_Lw_law_1109 : decode code 1109 = .ok (.aload_n 1, 1) ∧ decode code 1110 = .ok (.aload_n 0, 1) ∧ decode code 1111 = .ok (.iload 4, 2) ∧ decode code 1113 = .ok (.iconst 1, 1) ∧ decode code 1114 = .ok (.iadd, 1) ∧ decode code 1115 = .ok (.iaload, 1) ∧ decode code 1116 = .ok (.aload_n 3, 1) ∧ decode code 1117 = .ok (.invokestatic 195, 3) ∧ decode code 1120 = .ok (.istore 5, 2) ∧ decode code 1122 = .ok (.aload_n 2, 1) ∧ decode code 1123 = .ok (.aload_n 0, 1) ∧ decode code 1124 = .ok (.iload 4, 2) := by decide +kernel
theorem e1_Lw_law_1109 : decode code 1126 = .ok (.iconst 1, 1) ∧ decode code 1127 = .ok (.iadd, 1) ∧ decode code 1128 = .ok (.iaload, 1) ∧ decode code 1129 = .ok (.invokevirtual 197, 3) ∧ decode code 1132 = .ok (.istore 6, 2) ∧ decode code 1134 = .ok (.aload_n 2, 1) ∧ decode code 1135 = .ok (.invokevirtual 158, 3) ∧ decode code 1138 = .ok (.iload 5, 2) ∧ decode code 1140 = .ok (.if_icmp .eq 5, 3) ∧ decode code 1143 = .ok (.iconst 0, 1) ∧ decode code 1144 = .ok (.ireturn, 1) ∧ decode code 1145 = .ok (.iload 5, 2) := by decide +kernel
theorem e2_Lw_law_1109 : decode code 1147 = .ok (.ifCond .ne 22, 3) ∧ decode code 1150 = .ok (.aload_n 3, 1) ∧ decode code 1151 = .ok (.iconst 0, 1) ∧ decode code 1152 = .ok (.laload, 1) ∧ decode code 1153 = .ok (.iload 6, 2) ∧ decode code 1155 = .ok (.ifCond .eq 7, 3) ∧ decode code 1158 = .ok (.lconst 1, 1) ∧ decode code 1159 = .ok (.goto 4, 3) ∧ decode code 1162 = .ok (.lconst 0, 1) ∧ decode code 1163 = .ok (.lcmp, 1) ∧ decode code 1164 = .ok (.ifCond .eq 5, 3) ∧ decode code 1167 = .ok (.iconst 0, 1) := by decide +kernel
theorem e3_Lw_law_1109 : decode code 1168 = .ok (.ireturn, 1) ∧ decode code 1169 = .ok (.goto 1461, 3) := by decide +kernel
def T_Lw_law_1109 (L : Nat) (xs : Nat → Int32) : TT := [(1109, o_ald 1 1110), (1110, o_ald 0 1111), (1111, o_ild 4 1113), (1113, o_push (.int (iI (1))) 1114), (1114, o_iadd 1115), (1115, o_sld L xs 1116), (1116, o_ald 3 1117), (1117, o_callW M_Lw_isSound 3 1 34 1120), (1120, o_ist 5 1122), (1122, o_ald 2 1123), (1123, o_ald 0 1124), (1124, o_ild 4 1126), (1126, o_push (.int (iI (1))) 1127), (1127, o_iadd 1128), (1128, o_sld L xs 1129), (1129, o_callV M_Mm_isSound 8 2 1132), (1132, o_ist 6 1134), (1134, o_ald 2 1135), (1135, o_callV M_Mm_thrown 8 1 1138), (1138, o_ild 5 1140), (1140, o_icmp_eq 1145 1143), (1143, o_push (.int (iI (0))) 1144), (1144, o_zret), (1145, o_ild 5 1147), (1147, o_if_ne 1169 1150), (1150, o_ald 3 1151), (1151, o_push (.int (iI (0))) 1152), (1152, o_lald 1153), (1153, o_ild 6 1155), (1155, o_if_eq 1162 1158), (1158, o_push (.long (lI 1)) 1159), (1159, o_goto 1163), (1162, o_push (.long (lI 0)) 1163), (1163, o_lc_eq 1169 1167), (1167, o_push (.int (iI (0))) 1168), (1168, o_zret), (1169, o_goto 2630)]
theorem k_Lw_law_1109 (L : Nat) (xs : Nat → Int32) : ∀ x ∈ T_Lw_law_1109 L xs, SP (gS L xs) M_Lw_law x.1 x.2 := by
  obtain ⟨h1109, h1110, h1111, h1113, h1114, h1115, h1116, h1117, h1120, h1122, h1123, h1124⟩ := e0_Lw_law_1109
  obtain ⟨h1126, h1127, h1128, h1129, h1132, h1134, h1135, h1138, h1140, h1143, h1144, h1145⟩ := e1_Lw_law_1109
  obtain ⟨h1147, h1150, h1151, h1152, h1153, h1155, h1158, h1159, h1162, h1163, h1164, h1167⟩ := e2_Lw_law_1109
  obtain ⟨h1168, h1169⟩ := e3_Lw_law_1109
  refine acP (SP_of (s_aldn (M := M_Lw_law) (pc := 1109) (k := 1) h1109)) ?_
  refine acP (SP_of (s_aldn (M := M_Lw_law) (pc := 1110) (k := 0) h1110)) ?_
  refine acP (SP_of (s_ild (M := M_Lw_law) (pc := 1111) h1111)) ?_
  refine acP (SP_of (s_iconst (M := M_Lw_law) (pc := 1113) h1113 rfl)) ?_
  refine acP (SP_of (s_iadd (M := M_Lw_law) (pc := 1114) h1114)) ?_
  refine acP (s_sld (M := M_Lw_law) (pc := 1115) h1115) ?_
  refine acP (SP_of (s_aldn (M := M_Lw_law) (pc := 1116) (k := 3) h1116)) ?_
  refine acP (SP_of (s_callW (M := M_Lw_law) (pc := 1117) (mc1 := 1) (ms1 := 34) (z_law) h1117 rfl q_Lw_isSound wd1439 wd1440)) ?_
  refine acP (SP_of (s_ist (M := M_Lw_law) (pc := 1120) h1120 (by decide))) ?_
  refine acP (SP_of (s_aldn (M := M_Lw_law) (pc := 1122) (k := 2) h1122)) ?_
  refine acP (SP_of (s_aldn (M := M_Lw_law) (pc := 1123) (k := 0) h1123)) ?_
  refine acP (SP_of (s_ild (M := M_Lw_law) (pc := 1124) h1124)) ?_
  refine acP (SP_of (s_iconst (M := M_Lw_law) (pc := 1126) h1126 rfl)) ?_
  refine acP (SP_of (s_iadd (M := M_Lw_law) (pc := 1127) h1127)) ?_
  refine acP (s_sld (M := M_Lw_law) (pc := 1128) h1128) ?_
  refine acP (SP_of (s_callV (M := M_Lw_law) (pc := 1129) (z_law) h1129 q_Mm_isSound wd2143 wd2144 wd2145 rfl (T := TX8) (N := 29) rfl)) ?_
  refine acP (SP_of (s_ist (M := M_Lw_law) (pc := 1132) h1132 (by decide))) ?_
  refine acP (SP_of (s_aldn (M := M_Lw_law) (pc := 1134) (k := 2) h1134)) ?_
  refine acP (SP_of (s_callV (M := M_Lw_law) (pc := 1135) (z_law) h1135 q_Mm_thrown wd1679 wd1680 wd1681 rfl (T := TX8) (N := 29) rfl)) ?_
  refine acP (SP_of (s_ild (M := M_Lw_law) (pc := 1138) h1138)) ?_
  refine acP (SP_of (s_icmp_eq (M := M_Lw_law) (pc := 1140) h1140 (by decide))) ?_
  refine acP (SP_of (s_iconst (M := M_Lw_law) (pc := 1143) h1143 rfl)) ?_
  refine acP (SP_of (s_zret (M := M_Lw_law) (pc := 1144) h1144 rfl)) ?_
  refine acP (SP_of (s_ild (M := M_Lw_law) (pc := 1145) h1145)) ?_
  refine acP (SP_of (s_if_ne (M := M_Lw_law) (pc := 1147) h1147 (by decide))) ?_
  refine acP (SP_of (s_aldn (M := M_Lw_law) (pc := 1150) (k := 3) h1150)) ?_
  refine acP (SP_of (s_iconst (M := M_Lw_law) (pc := 1151) h1151 rfl)) ?_
  refine acP (SP_of (s_lald (M := M_Lw_law) (pc := 1152) h1152)) ?_
  refine acP (SP_of (s_ild (M := M_Lw_law) (pc := 1153) h1153)) ?_
  refine acP (SP_of (s_if_eq (M := M_Lw_law) (pc := 1155) h1155 (by decide))) ?_
  refine acP (SP_of (s_lconst (M := M_Lw_law) (pc := 1158) h1158 (by decide))) ?_
  refine acP (SP_of (s_goto (M := M_Lw_law) (pc := 1159) h1159 (by decide))) ?_
  refine acP (SP_of (s_lconst (M := M_Lw_law) (pc := 1162) h1162 (by decide))) ?_
  refine acP (SP_of (s_lc_eq (M := M_Lw_law) (pc := 1163) h1163 h1164 (by decide))) ?_
  refine acP (SP_of (s_iconst (M := M_Lw_law) (pc := 1167) h1167 rfl)) ?_
  refine acP (SP_of (s_zret (M := M_Lw_law) (pc := 1168) h1168 rfl)) ?_
  refine acP (SP_of (s_goto (M := M_Lw_law) (pc := 1169) h1169 (by decide))) ?_
  exact acP_nil
theorem e0_Lw_law_1172 : decode code 1172 = .ok (.aload_n 1, 1) ∧ decode code 1173 = .ok (.aload_n 0, 1) ∧ decode code 1174 = .ok (.iload 4, 2) ∧ decode code 1176 = .ok (.iconst 1, 1) ∧ decode code 1177 = .ok (.iadd, 1) ∧ decode code 1178 = .ok (.iaload, 1) ∧ decode code 1179 = .ok (.aload_n 0, 1) ∧ decode code 1180 = .ok (.iload 4, 2) ∧ decode code 1182 = .ok (.iconst 2, 1) ∧ decode code 1183 = .ok (.iadd, 1) ∧ decode code 1184 = .ok (.iaload, 1) ∧ decode code 1185 = .ok (.aload_n 3, 1) := by decide +kernel
theorem e1_Lw_law_1172 : decode code 1186 = .ok (.invokestatic 198, 3) ∧ decode code 1189 = .ok (.istore 5, 2) ∧ decode code 1191 = .ok (.aload_n 2, 1) ∧ decode code 1192 = .ok (.aload_n 0, 1) ∧ decode code 1193 = .ok (.iload 4, 2) ∧ decode code 1195 = .ok (.iconst 1, 1) ∧ decode code 1196 = .ok (.iadd, 1) ∧ decode code 1197 = .ok (.iaload, 1) ∧ decode code 1198 = .ok (.aload_n 0, 1) ∧ decode code 1199 = .ok (.iload 4, 2) ∧ decode code 1201 = .ok (.iconst 2, 1) ∧ decode code 1202 = .ok (.iadd, 1) := by decide +kernel
theorem e2_Lw_law_1172 : decode code 1203 = .ok (.iaload, 1) ∧ decode code 1204 = .ok (.invokevirtual 200, 3) ∧ decode code 1207 = .ok (.istore 6, 2) ∧ decode code 1209 = .ok (.aload_n 2, 1) ∧ decode code 1210 = .ok (.invokevirtual 158, 3) ∧ decode code 1213 = .ok (.iload 5, 2) ∧ decode code 1215 = .ok (.if_icmp .eq 5, 3) ∧ decode code 1218 = .ok (.iconst 0, 1) ∧ decode code 1219 = .ok (.ireturn, 1) ∧ decode code 1220 = .ok (.iload 5, 2) ∧ decode code 1222 = .ok (.ifCond .ne 15, 3) ∧ decode code 1225 = .ok (.aload_n 3, 1) := by decide +kernel
theorem e3_Lw_law_1172 : decode code 1226 = .ok (.iconst 0, 1) ∧ decode code 1227 = .ok (.laload, 1) ∧ decode code 1228 = .ok (.iload 6, 2) ∧ decode code 1230 = .ok (.i2l, 1) ∧ decode code 1231 = .ok (.lcmp, 1) ∧ decode code 1232 = .ok (.ifCond .eq 5, 3) ∧ decode code 1235 = .ok (.iconst 0, 1) ∧ decode code 1236 = .ok (.ireturn, 1) ∧ decode code 1237 = .ok (.goto 1393, 3) := by decide +kernel
def T_Lw_law_1172 (L : Nat) (xs : Nat → Int32) : TT := [(1172, o_ald 1 1173), (1173, o_ald 0 1174), (1174, o_ild 4 1176), (1176, o_push (.int (iI (1))) 1177), (1177, o_iadd 1178), (1178, o_sld L xs 1179), (1179, o_ald 0 1180), (1180, o_ild 4 1182), (1182, o_push (.int (iI (2))) 1183), (1183, o_iadd 1184), (1184, o_sld L xs 1185), (1185, o_ald 3 1186), (1186, o_callW M_Lw_compare 4 1 34 1189), (1189, o_ist 5 1191), (1191, o_ald 2 1192), (1192, o_ald 0 1193), (1193, o_ild 4 1195), (1195, o_push (.int (iI (1))) 1196), (1196, o_iadd 1197), (1197, o_sld L xs 1198), (1198, o_ald 0 1199), (1199, o_ild 4 1201), (1201, o_push (.int (iI (2))) 1202), (1202, o_iadd 1203), (1203, o_sld L xs 1204), (1204, o_callV M_Mm_compare 8 3 1207), (1207, o_ist 6 1209), (1209, o_ald 2 1210), (1210, o_callV M_Mm_thrown 8 1 1213), (1213, o_ild 5 1215), (1215, o_icmp_eq 1220 1218), (1218, o_push (.int (iI (0))) 1219), (1219, o_zret), (1220, o_ild 5 1222), (1222, o_if_ne 1237 1225), (1225, o_ald 3 1226), (1226, o_push (.int (iI (0))) 1227), (1227, o_lald 1228), (1228, o_ild 6 1230), (1230, o_i2l 1231), (1231, o_lc_eq 1237 1235), (1235, o_push (.int (iI (0))) 1236), (1236, o_zret), (1237, o_goto 2630)]
theorem k_Lw_law_1172 (L : Nat) (xs : Nat → Int32) : ∀ x ∈ T_Lw_law_1172 L xs, SP (gS L xs) M_Lw_law x.1 x.2 := by
  obtain ⟨h1172, h1173, h1174, h1176, h1177, h1178, h1179, h1180, h1182, h1183, h1184, h1185⟩ := e0_Lw_law_1172
  obtain ⟨h1186, h1189, h1191, h1192, h1193, h1195, h1196, h1197, h1198, h1199, h1201, h1202⟩ := e1_Lw_law_1172
  obtain ⟨h1203, h1204, h1207, h1209, h1210, h1213, h1215, h1218, h1219, h1220, h1222, h1225⟩ := e2_Lw_law_1172
  obtain ⟨h1226, h1227, h1228, h1230, h1231, h1232, h1235, h1236, h1237⟩ := e3_Lw_law_1172
  refine acP (SP_of (s_aldn (M := M_Lw_law) (pc := 1172) (k := 1) h1172)) ?_
  refine acP (SP_of (s_aldn (M := M_Lw_law) (pc := 1173) (k := 0) h1173)) ?_
  refine acP (SP_of (s_ild (M := M_Lw_law) (pc := 1174) h1174)) ?_
  refine acP (SP_of (s_iconst (M := M_Lw_law) (pc := 1176) h1176 rfl)) ?_
  refine acP (SP_of (s_iadd (M := M_Lw_law) (pc := 1177) h1177)) ?_
  refine acP (s_sld (M := M_Lw_law) (pc := 1178) h1178) ?_
  refine acP (SP_of (s_aldn (M := M_Lw_law) (pc := 1179) (k := 0) h1179)) ?_
  refine acP (SP_of (s_ild (M := M_Lw_law) (pc := 1180) h1180)) ?_
  refine acP (SP_of (s_iconst (M := M_Lw_law) (pc := 1182) h1182 rfl)) ?_
  refine acP (SP_of (s_iadd (M := M_Lw_law) (pc := 1183) h1183)) ?_
  refine acP (s_sld (M := M_Lw_law) (pc := 1184) h1184) ?_
  refine acP (SP_of (s_aldn (M := M_Lw_law) (pc := 1185) (k := 3) h1185)) ?_
  refine acP (SP_of (s_callW (M := M_Lw_law) (pc := 1186) (mc1 := 1) (ms1 := 34) (z_law) h1186 rfl q_Lw_compare wd1447 wd1448)) ?_
  refine acP (SP_of (s_ist (M := M_Lw_law) (pc := 1189) h1189 (by decide))) ?_
  refine acP (SP_of (s_aldn (M := M_Lw_law) (pc := 1191) (k := 2) h1191)) ?_
  refine acP (SP_of (s_aldn (M := M_Lw_law) (pc := 1192) (k := 0) h1192)) ?_
  refine acP (SP_of (s_ild (M := M_Lw_law) (pc := 1193) h1193)) ?_
  refine acP (SP_of (s_iconst (M := M_Lw_law) (pc := 1195) h1195 rfl)) ?_
  refine acP (SP_of (s_iadd (M := M_Lw_law) (pc := 1196) h1196)) ?_
  refine acP (s_sld (M := M_Lw_law) (pc := 1197) h1197) ?_
  refine acP (SP_of (s_aldn (M := M_Lw_law) (pc := 1198) (k := 0) h1198)) ?_
  refine acP (SP_of (s_ild (M := M_Lw_law) (pc := 1199) h1199)) ?_
  refine acP (SP_of (s_iconst (M := M_Lw_law) (pc := 1201) h1201 rfl)) ?_
  refine acP (SP_of (s_iadd (M := M_Lw_law) (pc := 1202) h1202)) ?_
  refine acP (s_sld (M := M_Lw_law) (pc := 1203) h1203) ?_
  refine acP (SP_of (s_callV (M := M_Lw_law) (pc := 1204) (z_law) h1204 q_Mm_compare wd2147 wd2148 wd2149 rfl (T := TX8) (N := 29) rfl)) ?_
  refine acP (SP_of (s_ist (M := M_Lw_law) (pc := 1207) h1207 (by decide))) ?_
  refine acP (SP_of (s_aldn (M := M_Lw_law) (pc := 1209) (k := 2) h1209)) ?_
  refine acP (SP_of (s_callV (M := M_Lw_law) (pc := 1210) (z_law) h1210 q_Mm_thrown wd1679 wd1680 wd1681 rfl (T := TX8) (N := 29) rfl)) ?_
  refine acP (SP_of (s_ild (M := M_Lw_law) (pc := 1213) h1213)) ?_
  refine acP (SP_of (s_icmp_eq (M := M_Lw_law) (pc := 1215) h1215 (by decide))) ?_
  refine acP (SP_of (s_iconst (M := M_Lw_law) (pc := 1218) h1218 rfl)) ?_
  refine acP (SP_of (s_zret (M := M_Lw_law) (pc := 1219) h1219 rfl)) ?_
  refine acP (SP_of (s_ild (M := M_Lw_law) (pc := 1220) h1220)) ?_
  refine acP (SP_of (s_if_ne (M := M_Lw_law) (pc := 1222) h1222 (by decide))) ?_
  refine acP (SP_of (s_aldn (M := M_Lw_law) (pc := 1225) (k := 3) h1225)) ?_
  refine acP (SP_of (s_iconst (M := M_Lw_law) (pc := 1226) h1226 rfl)) ?_
  refine acP (SP_of (s_lald (M := M_Lw_law) (pc := 1227) h1227)) ?_
  refine acP (SP_of (s_ild (M := M_Lw_law) (pc := 1228) h1228)) ?_
  refine acP (SP_of (s_i2l (M := M_Lw_law) (pc := 1230) h1230)) ?_
  refine acP (SP_of (s_lc_eq (M := M_Lw_law) (pc := 1231) h1231 h1232 (by decide))) ?_
  refine acP (SP_of (s_iconst (M := M_Lw_law) (pc := 1235) h1235 rfl)) ?_
  refine acP (SP_of (s_zret (M := M_Lw_law) (pc := 1236) h1236 rfl)) ?_
  refine acP (SP_of (s_goto (M := M_Lw_law) (pc := 1237) h1237 (by decide))) ?_
  exact acP_nil
theorem e0_Lw_law_1240 : decode code 1240 = .ok (.aload_n 1, 1) ∧ decode code 1241 = .ok (.aload_n 0, 1) ∧ decode code 1242 = .ok (.iload 4, 2) ∧ decode code 1244 = .ok (.iconst 1, 1) ∧ decode code 1245 = .ok (.iadd, 1) ∧ decode code 1246 = .ok (.iaload, 1) ∧ decode code 1247 = .ok (.aload_n 0, 1) ∧ decode code 1248 = .ok (.iload 4, 2) ∧ decode code 1250 = .ok (.iconst 2, 1) ∧ decode code 1251 = .ok (.iadd, 1) ∧ decode code 1252 = .ok (.iaload, 1) ∧ decode code 1253 = .ok (.aload_n 0, 1) := by decide +kernel
theorem e1_Lw_law_1240 : decode code 1254 = .ok (.iload 4, 2) ∧ decode code 1256 = .ok (.iconst 3, 1) ∧ decode code 1257 = .ok (.iadd, 1) ∧ decode code 1258 = .ok (.iaload, 1) ∧ decode code 1259 = .ok (.ifCond .eq 7, 3) ∧ decode code 1262 = .ok (.iconst 1, 1) ∧ decode code 1263 = .ok (.goto 4, 3) ∧ decode code 1266 = .ok (.iconst 0, 1) ∧ decode code 1267 = .ok (.aload_n 3, 1) ∧ decode code 1268 = .ok (.invokestatic 201, 3) ∧ decode code 1271 = .ok (.istore 5, 2) ∧ decode code 1273 = .ok (.aload_n 2, 1) := by decide +kernel
theorem e2_Lw_law_1240 : decode code 1274 = .ok (.aload_n 0, 1) ∧ decode code 1275 = .ok (.iload 4, 2) ∧ decode code 1277 = .ok (.iconst 1, 1) ∧ decode code 1278 = .ok (.iadd, 1) ∧ decode code 1279 = .ok (.iaload, 1) ∧ decode code 1280 = .ok (.aload_n 0, 1) ∧ decode code 1281 = .ok (.iload 4, 2) ∧ decode code 1283 = .ok (.iconst 2, 1) ∧ decode code 1284 = .ok (.iadd, 1) ∧ decode code 1285 = .ok (.iaload, 1) ∧ decode code 1286 = .ok (.aload_n 0, 1) ∧ decode code 1287 = .ok (.iload 4, 2) := by decide +kernel
theorem e3_Lw_law_1240 : decode code 1289 = .ok (.iconst 3, 1) ∧ decode code 1290 = .ok (.iadd, 1) ∧ decode code 1291 = .ok (.iaload, 1) ∧ decode code 1292 = .ok (.ifCond .eq 7, 3) ∧ decode code 1295 = .ok (.iconst 1, 1) ∧ decode code 1296 = .ok (.goto 4, 3) ∧ decode code 1299 = .ok (.iconst 0, 1) ∧ decode code 1300 = .ok (.invokevirtual 204, 3) ∧ decode code 1303 = .ok (.istore 6, 2) ∧ decode code 1305 = .ok (.aload_n 2, 1) ∧ decode code 1306 = .ok (.invokevirtual 158, 3) ∧ decode code 1309 = .ok (.iload 5, 2) := by decide +kernel
theorem e4_Lw_law_1240 : decode code 1311 = .ok (.if_icmp .eq 5, 3) ∧ decode code 1314 = .ok (.iconst 0, 1) ∧ decode code 1315 = .ok (.ireturn, 1) ∧ decode code 1316 = .ok (.iload 5, 2) ∧ decode code 1318 = .ok (.ifCond .ne 15, 3) ∧ decode code 1321 = .ok (.aload_n 3, 1) ∧ decode code 1322 = .ok (.iconst 0, 1) ∧ decode code 1323 = .ok (.laload, 1) ∧ decode code 1324 = .ok (.iload 6, 2) ∧ decode code 1326 = .ok (.i2l, 1) ∧ decode code 1327 = .ok (.lcmp, 1) ∧ decode code 1328 = .ok (.ifCond .eq 5, 3) := by decide +kernel
theorem e5_Lw_law_1240 : decode code 1331 = .ok (.iconst 0, 1) ∧ decode code 1332 = .ok (.ireturn, 1) ∧ decode code 1333 = .ok (.goto 1297, 3) := by decide +kernel
def T_Lw_law_1240 (L : Nat) (xs : Nat → Int32) : TT := [(1240, o_ald 1 1241), (1241, o_ald 0 1242), (1242, o_ild 4 1244), (1244, o_push (.int (iI (1))) 1245), (1245, o_iadd 1246), (1246, o_sld L xs 1247), (1247, o_ald 0 1248), (1248, o_ild 4 1250), (1250, o_push (.int (iI (2))) 1251), (1251, o_iadd 1252), (1252, o_sld L xs 1253), (1253, o_ald 0 1254), (1254, o_ild 4 1256), (1256, o_push (.int (iI (3))) 1257), (1257, o_iadd 1258), (1258, o_sld L xs 1259), (1259, o_if_eq 1266 1262), (1262, o_push (.int (iI (1))) 1263), (1263, o_goto 1267), (1266, o_push (.int (iI (0))) 1267), (1267, o_ald 3 1268), (1268, o_callW M_Lw_extend 5 1 34 1271), (1271, o_ist 5 1273), (1273, o_ald 2 1274), (1274, o_ald 0 1275), (1275, o_ild 4 1277), (1277, o_push (.int (iI (1))) 1278), (1278, o_iadd 1279), (1279, o_sld L xs 1280), (1280, o_ald 0 1281), (1281, o_ild 4 1283), (1283, o_push (.int (iI (2))) 1284), (1284, o_iadd 1285), (1285, o_sld L xs 1286), (1286, o_ald 0 1287), (1287, o_ild 4 1289), (1289, o_push (.int (iI (3))) 1290), (1290, o_iadd 1291), (1291, o_sld L xs 1292), (1292, o_if_eq 1299 1295), (1295, o_push (.int (iI (1))) 1296), (1296, o_goto 1300), (1299, o_push (.int (iI (0))) 1300), (1300, o_callV M_Mm_extend 8 4 1303), (1303, o_ist 6 1305), (1305, o_ald 2 1306), (1306, o_callV M_Mm_thrown 8 1 1309), (1309, o_ild 5 1311), (1311, o_icmp_eq 1316 1314), (1314, o_push (.int (iI (0))) 1315), (1315, o_zret), (1316, o_ild 5 1318), (1318, o_if_ne 1333 1321), (1321, o_ald 3 1322), (1322, o_push (.int (iI (0))) 1323), (1323, o_lald 1324), (1324, o_ild 6 1326), (1326, o_i2l 1327), (1327, o_lc_eq 1333 1331), (1331, o_push (.int (iI (0))) 1332), (1332, o_zret), (1333, o_goto 2630)]
theorem k_Lw_law_1240 (L : Nat) (xs : Nat → Int32) : ∀ x ∈ T_Lw_law_1240 L xs, SP (gS L xs) M_Lw_law x.1 x.2 := by
  obtain ⟨h1240, h1241, h1242, h1244, h1245, h1246, h1247, h1248, h1250, h1251, h1252, h1253⟩ := e0_Lw_law_1240
  obtain ⟨h1254, h1256, h1257, h1258, h1259, h1262, h1263, h1266, h1267, h1268, h1271, h1273⟩ := e1_Lw_law_1240
  obtain ⟨h1274, h1275, h1277, h1278, h1279, h1280, h1281, h1283, h1284, h1285, h1286, h1287⟩ := e2_Lw_law_1240
  obtain ⟨h1289, h1290, h1291, h1292, h1295, h1296, h1299, h1300, h1303, h1305, h1306, h1309⟩ := e3_Lw_law_1240
  obtain ⟨h1311, h1314, h1315, h1316, h1318, h1321, h1322, h1323, h1324, h1326, h1327, h1328⟩ := e4_Lw_law_1240
  obtain ⟨h1331, h1332, h1333⟩ := e5_Lw_law_1240
  refine acP (SP_of (s_aldn (M := M_Lw_law) (pc := 1240) (k := 1) h1240)) ?_
  refine acP (SP_of (s_aldn (M := M_Lw_law) (pc := 1241) (k := 0) h1241)) ?_
  refine acP (SP_of (s_ild (M := M_Lw_law) (pc := 1242) h1242)) ?_
  refine acP (SP_of (s_iconst (M := M_Lw_law) (pc := 1244) h1244 rfl)) ?_
  refine acP (SP_of (s_iadd (M := M_Lw_law) (pc := 1245) h1245)) ?_
  refine acP (s_sld (M := M_Lw_law) (pc := 1246) h1246) ?_
  refine acP (SP_of (s_aldn (M := M_Lw_law) (pc := 1247) (k := 0) h1247)) ?_
  refine acP (SP_of (s_ild (M := M_Lw_law) (pc := 1248) h1248)) ?_
  refine acP (SP_of (s_iconst (M := M_Lw_law) (pc := 1250) h1250 rfl)) ?_
  refine acP (SP_of (s_iadd (M := M_Lw_law) (pc := 1251) h1251)) ?_
  refine acP (s_sld (M := M_Lw_law) (pc := 1252) h1252) ?_
  refine acP (SP_of (s_aldn (M := M_Lw_law) (pc := 1253) (k := 0) h1253)) ?_
  refine acP (SP_of (s_ild (M := M_Lw_law) (pc := 1254) h1254)) ?_
  refine acP (SP_of (s_iconst (M := M_Lw_law) (pc := 1256) h1256 rfl)) ?_
  refine acP (SP_of (s_iadd (M := M_Lw_law) (pc := 1257) h1257)) ?_
  refine acP (s_sld (M := M_Lw_law) (pc := 1258) h1258) ?_
  refine acP (SP_of (s_if_eq (M := M_Lw_law) (pc := 1259) h1259 (by decide))) ?_
  refine acP (SP_of (s_iconst (M := M_Lw_law) (pc := 1262) h1262 rfl)) ?_
  refine acP (SP_of (s_goto (M := M_Lw_law) (pc := 1263) h1263 (by decide))) ?_
  refine acP (SP_of (s_iconst (M := M_Lw_law) (pc := 1266) h1266 rfl)) ?_
  refine acP (SP_of (s_aldn (M := M_Lw_law) (pc := 1267) (k := 3) h1267)) ?_
  refine acP (SP_of (s_callW (M := M_Lw_law) (pc := 1268) (mc1 := 1) (ms1 := 34) (z_law) h1268 rfl q_Lw_extend wd1458 wd1459)) ?_
  refine acP (SP_of (s_ist (M := M_Lw_law) (pc := 1271) h1271 (by decide))) ?_
  refine acP (SP_of (s_aldn (M := M_Lw_law) (pc := 1273) (k := 2) h1273)) ?_
  refine acP (SP_of (s_aldn (M := M_Lw_law) (pc := 1274) (k := 0) h1274)) ?_
  refine acP (SP_of (s_ild (M := M_Lw_law) (pc := 1275) h1275)) ?_
  refine acP (SP_of (s_iconst (M := M_Lw_law) (pc := 1277) h1277 rfl)) ?_
  refine acP (SP_of (s_iadd (M := M_Lw_law) (pc := 1278) h1278)) ?_
  refine acP (s_sld (M := M_Lw_law) (pc := 1279) h1279) ?_
  refine acP (SP_of (s_aldn (M := M_Lw_law) (pc := 1280) (k := 0) h1280)) ?_
  refine acP (SP_of (s_ild (M := M_Lw_law) (pc := 1281) h1281)) ?_
  refine acP (SP_of (s_iconst (M := M_Lw_law) (pc := 1283) h1283 rfl)) ?_
  refine acP (SP_of (s_iadd (M := M_Lw_law) (pc := 1284) h1284)) ?_
  refine acP (s_sld (M := M_Lw_law) (pc := 1285) h1285) ?_
  refine acP (SP_of (s_aldn (M := M_Lw_law) (pc := 1286) (k := 0) h1286)) ?_
  refine acP (SP_of (s_ild (M := M_Lw_law) (pc := 1287) h1287)) ?_
  refine acP (SP_of (s_iconst (M := M_Lw_law) (pc := 1289) h1289 rfl)) ?_
  refine acP (SP_of (s_iadd (M := M_Lw_law) (pc := 1290) h1290)) ?_
  refine acP (s_sld (M := M_Lw_law) (pc := 1291) h1291) ?_
  refine acP (SP_of (s_if_eq (M := M_Lw_law) (pc := 1292) h1292 (by decide))) ?_
  refine acP (SP_of (s_iconst (M := M_Lw_law) (pc := 1295) h1295 rfl)) ?_
  refine acP (SP_of (s_goto (M := M_Lw_law) (pc := 1296) h1296 (by decide))) ?_
  refine acP (SP_of (s_iconst (M := M_Lw_law) (pc := 1299) h1299 rfl)) ?_
  refine acP (SP_of (s_callV (M := M_Lw_law) (pc := 1300) (z_law) h1300 q_Mm_extend wd2159 wd2160 wd2161 rfl (T := TX8) (N := 29) rfl)) ?_
  refine acP (SP_of (s_ist (M := M_Lw_law) (pc := 1303) h1303 (by decide))) ?_
  refine acP (SP_of (s_aldn (M := M_Lw_law) (pc := 1305) (k := 2) h1305)) ?_
  refine acP (SP_of (s_callV (M := M_Lw_law) (pc := 1306) (z_law) h1306 q_Mm_thrown wd1679 wd1680 wd1681 rfl (T := TX8) (N := 29) rfl)) ?_
  refine acP (SP_of (s_ild (M := M_Lw_law) (pc := 1309) h1309)) ?_
  refine acP (SP_of (s_icmp_eq (M := M_Lw_law) (pc := 1311) h1311 (by decide))) ?_
  refine acP (SP_of (s_iconst (M := M_Lw_law) (pc := 1314) h1314 rfl)) ?_
  refine acP (SP_of (s_zret (M := M_Lw_law) (pc := 1315) h1315 rfl)) ?_
  refine acP (SP_of (s_ild (M := M_Lw_law) (pc := 1316) h1316)) ?_
  refine acP (SP_of (s_if_ne (M := M_Lw_law) (pc := 1318) h1318 (by decide))) ?_
  refine acP (SP_of (s_aldn (M := M_Lw_law) (pc := 1321) (k := 3) h1321)) ?_
  refine acP (SP_of (s_iconst (M := M_Lw_law) (pc := 1322) h1322 rfl)) ?_
  refine acP (SP_of (s_lald (M := M_Lw_law) (pc := 1323) h1323)) ?_
  refine acP (SP_of (s_ild (M := M_Lw_law) (pc := 1324) h1324)) ?_
  refine acP (SP_of (s_i2l (M := M_Lw_law) (pc := 1326) h1326)) ?_
  refine acP (SP_of (s_lc_eq (M := M_Lw_law) (pc := 1327) h1327 h1328 (by decide))) ?_
  refine acP (SP_of (s_iconst (M := M_Lw_law) (pc := 1331) h1331 rfl)) ?_
  refine acP (SP_of (s_zret (M := M_Lw_law) (pc := 1332) h1332 rfl)) ?_
  refine acP (SP_of (s_goto (M := M_Lw_law) (pc := 1333) h1333 (by decide))) ?_
  exact acP_nil
theorem e0_Lw_law_1336 : decode code 1336 = .ok (.aload_n 1, 1) ∧ decode code 1337 = .ok (.invokevirtual 205, 3) ∧ decode code 1340 = .ok (.aload_n 2, 1) ∧ decode code 1341 = .ok (.invokevirtual 209, 3) ∧ decode code 1344 = .ok (.lcmp, 1) ∧ decode code 1345 = .ok (.ifCond .eq 1285, 3) ∧ decode code 1348 = .ok (.iconst 0, 1) ∧ decode code 1349 = .ok (.ireturn, 1) := by decide +kernel
def T_Lw_law_1336 (L : Nat) (xs : Nat → Int32) : TT := [(1336, o_ald 1 1337), (1337, o_callV M_R_gap 0 1 1340), (1340, o_ald 2 1341), (1341, o_callV M_Mm_gap 8 1 1344), (1344, o_lc_eq 2630 1348), (1348, o_push (.int (iI (0))) 1349), (1349, o_zret)]
theorem k_Lw_law_1336 (L : Nat) (xs : Nat → Int32) : ∀ x ∈ T_Lw_law_1336 L xs, SP (gS L xs) M_Lw_law x.1 x.2 := by
  obtain ⟨h1336, h1337, h1340, h1341, h1344, h1345, h1348, h1349⟩ := e0_Lw_law_1336
  refine acP (SP_of (s_aldn (M := M_Lw_law) (pc := 1336) (k := 1) h1336)) ?_
  refine acP (SP_of (s_callV (M := M_Lw_law) (pc := 1337) (z_law) h1337 q_R_gap wd879 wd880 wd881 rfl (T := TX7) (N := 12) rfl)) ?_
  refine acP (SP_of (s_aldn (M := M_Lw_law) (pc := 1340) (k := 2) h1340)) ?_
  refine acP (SP_of (s_callV (M := M_Lw_law) (pc := 1341) (z_law) h1341 q_Mm_gap wd2164 wd2165 wd2166 rfl (T := TX8) (N := 29) rfl)) ?_
  refine acP (SP_of (s_lc_eq (M := M_Lw_law) (pc := 1344) h1344 h1345 (by decide))) ?_
  refine acP (SP_of (s_iconst (M := M_Lw_law) (pc := 1348) h1348 rfl)) ?_
  refine acP (SP_of (s_zret (M := M_Lw_law) (pc := 1349) h1349 rfl)) ?_
  exact acP_nil
theorem e0_Lw_law_1350 : decode code 1350 = .ok (.aload_n 1, 1) ∧ decode code 1351 = .ok (.aload_n 0, 1) ∧ decode code 1352 = .ok (.iload 4, 2) ∧ decode code 1354 = .ok (.iconst 1, 1) ∧ decode code 1355 = .ok (.iadd, 1) ∧ decode code 1356 = .ok (.iaload, 1) ∧ decode code 1357 = .ok (.aload_n 0, 1) ∧ decode code 1358 = .ok (.iload 4, 2) ∧ decode code 1360 = .ok (.iconst 2, 1) ∧ decode code 1361 = .ok (.iadd, 1) ∧ decode code 1362 = .ok (.iaload, 1) ∧ decode code 1363 = .ok (.aload_n 3, 1) := by decide +kernel
theorem e1_Lw_law_1350 : decode code 1364 = .ok (.invokestatic 210, 3) ∧ decode code 1367 = .ok (.istore 5, 2) ∧ decode code 1369 = .ok (.aload_n 2, 1) ∧ decode code 1370 = .ok (.aload_n 0, 1) ∧ decode code 1371 = .ok (.iload 4, 2) ∧ decode code 1373 = .ok (.iconst 1, 1) ∧ decode code 1374 = .ok (.iadd, 1) ∧ decode code 1375 = .ok (.iaload, 1) ∧ decode code 1376 = .ok (.aload_n 0, 1) ∧ decode code 1377 = .ok (.iload 4, 2) ∧ decode code 1379 = .ok (.iconst 2, 1) ∧ decode code 1380 = .ok (.iadd, 1) := by decide +kernel
theorem e2_Lw_law_1350 : decode code 1381 = .ok (.iaload, 1) ∧ decode code 1382 = .ok (.invokevirtual 212, 3) ∧ decode code 1385 = .ok (.istore 6, 2) ∧ decode code 1387 = .ok (.aload_n 2, 1) ∧ decode code 1388 = .ok (.invokevirtual 158, 3) ∧ decode code 1391 = .ok (.iload 5, 2) ∧ decode code 1393 = .ok (.if_icmp .eq 5, 3) ∧ decode code 1396 = .ok (.iconst 0, 1) ∧ decode code 1397 = .ok (.ireturn, 1) ∧ decode code 1398 = .ok (.iload 5, 2) ∧ decode code 1400 = .ok (.ifCond .ne 15, 3) ∧ decode code 1403 = .ok (.aload_n 3, 1) := by decide +kernel
theorem e3_Lw_law_1350 : decode code 1404 = .ok (.iconst 0, 1) ∧ decode code 1405 = .ok (.laload, 1) ∧ decode code 1406 = .ok (.iload 6, 2) ∧ decode code 1408 = .ok (.i2l, 1) ∧ decode code 1409 = .ok (.lcmp, 1) ∧ decode code 1410 = .ok (.ifCond .eq 5, 3) ∧ decode code 1413 = .ok (.iconst 0, 1) ∧ decode code 1414 = .ok (.ireturn, 1) ∧ decode code 1415 = .ok (.goto 1215, 3) := by decide +kernel
def T_Lw_law_1350 (L : Nat) (xs : Nat → Int32) : TT := [(1350, o_ald 1 1351), (1351, o_ald 0 1352), (1352, o_ild 4 1354), (1354, o_push (.int (iI (1))) 1355), (1355, o_iadd 1356), (1356, o_sld L xs 1357), (1357, o_ald 0 1358), (1358, o_ild 4 1360), (1360, o_push (.int (iI (2))) 1361), (1361, o_iadd 1362), (1362, o_sld L xs 1363), (1363, o_ald 3 1364), (1364, o_callW M_Lw_distance 4 1 34 1367), (1367, o_ist 5 1369), (1369, o_ald 2 1370), (1370, o_ald 0 1371), (1371, o_ild 4 1373), (1373, o_push (.int (iI (1))) 1374), (1374, o_iadd 1375), (1375, o_sld L xs 1376), (1376, o_ald 0 1377), (1377, o_ild 4 1379), (1379, o_push (.int (iI (2))) 1380), (1380, o_iadd 1381), (1381, o_sld L xs 1382), (1382, o_callV M_Mm_distance 8 3 1385), (1385, o_ist 6 1387), (1387, o_ald 2 1388), (1388, o_callV M_Mm_thrown 8 1 1391), (1391, o_ild 5 1393), (1393, o_icmp_eq 1398 1396), (1396, o_push (.int (iI (0))) 1397), (1397, o_zret), (1398, o_ild 5 1400), (1400, o_if_ne 1415 1403), (1403, o_ald 3 1404), (1404, o_push (.int (iI (0))) 1405), (1405, o_lald 1406), (1406, o_ild 6 1408), (1408, o_i2l 1409), (1409, o_lc_eq 1415 1413), (1413, o_push (.int (iI (0))) 1414), (1414, o_zret), (1415, o_goto 2630)]
theorem k_Lw_law_1350 (L : Nat) (xs : Nat → Int32) : ∀ x ∈ T_Lw_law_1350 L xs, SP (gS L xs) M_Lw_law x.1 x.2 := by
  obtain ⟨h1350, h1351, h1352, h1354, h1355, h1356, h1357, h1358, h1360, h1361, h1362, h1363⟩ := e0_Lw_law_1350
  obtain ⟨h1364, h1367, h1369, h1370, h1371, h1373, h1374, h1375, h1376, h1377, h1379, h1380⟩ := e1_Lw_law_1350
  obtain ⟨h1381, h1382, h1385, h1387, h1388, h1391, h1393, h1396, h1397, h1398, h1400, h1403⟩ := e2_Lw_law_1350
  obtain ⟨h1404, h1405, h1406, h1408, h1409, h1410, h1413, h1414, h1415⟩ := e3_Lw_law_1350
  refine acP (SP_of (s_aldn (M := M_Lw_law) (pc := 1350) (k := 1) h1350)) ?_
  refine acP (SP_of (s_aldn (M := M_Lw_law) (pc := 1351) (k := 0) h1351)) ?_
  refine acP (SP_of (s_ild (M := M_Lw_law) (pc := 1352) h1352)) ?_
  refine acP (SP_of (s_iconst (M := M_Lw_law) (pc := 1354) h1354 rfl)) ?_
  refine acP (SP_of (s_iadd (M := M_Lw_law) (pc := 1355) h1355)) ?_
  refine acP (s_sld (M := M_Lw_law) (pc := 1356) h1356) ?_
  refine acP (SP_of (s_aldn (M := M_Lw_law) (pc := 1357) (k := 0) h1357)) ?_
  refine acP (SP_of (s_ild (M := M_Lw_law) (pc := 1358) h1358)) ?_
  refine acP (SP_of (s_iconst (M := M_Lw_law) (pc := 1360) h1360 rfl)) ?_
  refine acP (SP_of (s_iadd (M := M_Lw_law) (pc := 1361) h1361)) ?_
  refine acP (s_sld (M := M_Lw_law) (pc := 1362) h1362) ?_
  refine acP (SP_of (s_aldn (M := M_Lw_law) (pc := 1363) (k := 3) h1363)) ?_
  refine acP (SP_of (s_callW (M := M_Lw_law) (pc := 1364) (mc1 := 1) (ms1 := 34) (z_law) h1364 rfl q_Lw_distance wd1465 wd1466)) ?_
  refine acP (SP_of (s_ist (M := M_Lw_law) (pc := 1367) h1367 (by decide))) ?_
  refine acP (SP_of (s_aldn (M := M_Lw_law) (pc := 1369) (k := 2) h1369)) ?_
  refine acP (SP_of (s_aldn (M := M_Lw_law) (pc := 1370) (k := 0) h1370)) ?_
  refine acP (SP_of (s_ild (M := M_Lw_law) (pc := 1371) h1371)) ?_
  refine acP (SP_of (s_iconst (M := M_Lw_law) (pc := 1373) h1373 rfl)) ?_
  refine acP (SP_of (s_iadd (M := M_Lw_law) (pc := 1374) h1374)) ?_
  refine acP (s_sld (M := M_Lw_law) (pc := 1375) h1375) ?_
  refine acP (SP_of (s_aldn (M := M_Lw_law) (pc := 1376) (k := 0) h1376)) ?_
  refine acP (SP_of (s_ild (M := M_Lw_law) (pc := 1377) h1377)) ?_
  refine acP (SP_of (s_iconst (M := M_Lw_law) (pc := 1379) h1379 rfl)) ?_
  refine acP (SP_of (s_iadd (M := M_Lw_law) (pc := 1380) h1380)) ?_
  refine acP (s_sld (M := M_Lw_law) (pc := 1381) h1381) ?_
  refine acP (SP_of (s_callV (M := M_Lw_law) (pc := 1382) (z_law) h1382 q_Mm_distance wd2168 wd2169 wd2170 rfl (T := TX8) (N := 29) rfl)) ?_
  refine acP (SP_of (s_ist (M := M_Lw_law) (pc := 1385) h1385 (by decide))) ?_
  refine acP (SP_of (s_aldn (M := M_Lw_law) (pc := 1387) (k := 2) h1387)) ?_
  refine acP (SP_of (s_callV (M := M_Lw_law) (pc := 1388) (z_law) h1388 q_Mm_thrown wd1679 wd1680 wd1681 rfl (T := TX8) (N := 29) rfl)) ?_
  refine acP (SP_of (s_ild (M := M_Lw_law) (pc := 1391) h1391)) ?_
  refine acP (SP_of (s_icmp_eq (M := M_Lw_law) (pc := 1393) h1393 (by decide))) ?_
  refine acP (SP_of (s_iconst (M := M_Lw_law) (pc := 1396) h1396 rfl)) ?_
  refine acP (SP_of (s_zret (M := M_Lw_law) (pc := 1397) h1397 rfl)) ?_
  refine acP (SP_of (s_ild (M := M_Lw_law) (pc := 1398) h1398)) ?_
  refine acP (SP_of (s_if_ne (M := M_Lw_law) (pc := 1400) h1400 (by decide))) ?_
  refine acP (SP_of (s_aldn (M := M_Lw_law) (pc := 1403) (k := 3) h1403)) ?_
  refine acP (SP_of (s_iconst (M := M_Lw_law) (pc := 1404) h1404 rfl)) ?_
  refine acP (SP_of (s_lald (M := M_Lw_law) (pc := 1405) h1405)) ?_
  refine acP (SP_of (s_ild (M := M_Lw_law) (pc := 1406) h1406)) ?_
  refine acP (SP_of (s_i2l (M := M_Lw_law) (pc := 1408) h1408)) ?_
  refine acP (SP_of (s_lc_eq (M := M_Lw_law) (pc := 1409) h1409 h1410 (by decide))) ?_
  refine acP (SP_of (s_iconst (M := M_Lw_law) (pc := 1413) h1413 rfl)) ?_
  refine acP (SP_of (s_zret (M := M_Lw_law) (pc := 1414) h1414 rfl)) ?_
  refine acP (SP_of (s_goto (M := M_Lw_law) (pc := 1415) h1415 (by decide))) ?_
  exact acP_nil
theorem e0_Lw_law_1418 : decode code 1418 = .ok (.aload_n 1, 1) ∧ decode code 1419 = .ok (.aload_n 0, 1) ∧ decode code 1420 = .ok (.iload 4, 2) ∧ decode code 1422 = .ok (.iconst 1, 1) ∧ decode code 1423 = .ok (.iadd, 1) ∧ decode code 1424 = .ok (.iaload, 1) ∧ decode code 1425 = .ok (.aload_n 0, 1) ∧ decode code 1426 = .ok (.iload 4, 2) ∧ decode code 1428 = .ok (.iconst 2, 1) ∧ decode code 1429 = .ok (.iadd, 1) ∧ decode code 1430 = .ok (.iaload, 1) ∧ decode code 1431 = .ok (.aload_n 0, 1) := by decide +kernel
theorem e1_Lw_law_1418 : decode code 1432 = .ok (.iload 4, 2) ∧ decode code 1434 = .ok (.iconst 3, 1) ∧ decode code 1435 = .ok (.iadd, 1) ∧ decode code 1436 = .ok (.iaload, 1) ∧ decode code 1437 = .ok (.aload_n 3, 1) ∧ decode code 1438 = .ok (.invokestatic 213, 3) ∧ decode code 1441 = .ok (.istore 5, 2) ∧ decode code 1443 = .ok (.aload_n 2, 1) ∧ decode code 1444 = .ok (.aload_n 0, 1) ∧ decode code 1445 = .ok (.iload 4, 2) ∧ decode code 1447 = .ok (.iconst 1, 1) ∧ decode code 1448 = .ok (.iadd, 1) := by decide +kernel
theorem e2_Lw_law_1418 : decode code 1449 = .ok (.iaload, 1) ∧ decode code 1450 = .ok (.aload_n 0, 1) ∧ decode code 1451 = .ok (.iload 4, 2) ∧ decode code 1453 = .ok (.iconst 2, 1) ∧ decode code 1454 = .ok (.iadd, 1) ∧ decode code 1455 = .ok (.iaload, 1) ∧ decode code 1456 = .ok (.aload_n 0, 1) ∧ decode code 1457 = .ok (.iload 4, 2) ∧ decode code 1459 = .ok (.iconst 3, 1) ∧ decode code 1460 = .ok (.iadd, 1) ∧ decode code 1461 = .ok (.iaload, 1) ∧ decode code 1462 = .ok (.invokevirtual 216, 3) := by decide +kernel
theorem e3_Lw_law_1418 : decode code 1465 = .ok (.lstore 6, 2) ∧ decode code 1467 = .ok (.aload_n 2, 1) ∧ decode code 1468 = .ok (.invokevirtual 158, 3) ∧ decode code 1471 = .ok (.iload 5, 2) ∧ decode code 1473 = .ok (.if_icmp .eq 5, 3) ∧ decode code 1476 = .ok (.iconst 0, 1) ∧ decode code 1477 = .ok (.ireturn, 1) ∧ decode code 1478 = .ok (.iload 5, 2) ∧ decode code 1480 = .ok (.ifCond .ne 14, 3) ∧ decode code 1483 = .ok (.aload_n 3, 1) ∧ decode code 1484 = .ok (.iconst 0, 1) ∧ decode code 1485 = .ok (.laload, 1) := by decide +kernel
theorem e4_Lw_law_1418 : decode code 1486 = .ok (.lload 6, 2) ∧ decode code 1488 = .ok (.lcmp, 1) ∧ decode code 1489 = .ok (.ifCond .eq 5, 3) ∧ decode code 1492 = .ok (.iconst 0, 1) ∧ decode code 1493 = .ok (.ireturn, 1) ∧ decode code 1494 = .ok (.goto 1136, 3) := by decide +kernel
def T_Lw_law_1418 (L : Nat) (xs : Nat → Int32) : TT := [(1418, o_ald 1 1419), (1419, o_ald 0 1420), (1420, o_ild 4 1422), (1422, o_push (.int (iI (1))) 1423), (1423, o_iadd 1424), (1424, o_sld L xs 1425), (1425, o_ald 0 1426), (1426, o_ild 4 1428), (1428, o_push (.int (iI (2))) 1429), (1429, o_iadd 1430), (1430, o_sld L xs 1431), (1431, o_ald 0 1432), (1432, o_ild 4 1434), (1434, o_push (.int (iI (3))) 1435), (1435, o_iadd 1436), (1436, o_sld L xs 1437), (1437, o_ald 3 1438), (1438, o_callW M_Lw_exact 5 1 34 1441), (1441, o_ist 5 1443), (1443, o_ald 2 1444), (1444, o_ald 0 1445), (1445, o_ild 4 1447), (1447, o_push (.int (iI (1))) 1448), (1448, o_iadd 1449), (1449, o_sld L xs 1450), (1450, o_ald 0 1451), (1451, o_ild 4 1453), (1453, o_push (.int (iI (2))) 1454), (1454, o_iadd 1455), (1455, o_sld L xs 1456), (1456, o_ald 0 1457), (1457, o_ild 4 1459), (1459, o_push (.int (iI (3))) 1460), (1460, o_iadd 1461), (1461, o_sld L xs 1462), (1462, o_callV M_Mm_exact 8 4 1465), (1465, o_lst 6 1467), (1467, o_ald 2 1468), (1468, o_callV M_Mm_thrown 8 1 1471), (1471, o_ild 5 1473), (1473, o_icmp_eq 1478 1476), (1476, o_push (.int (iI (0))) 1477), (1477, o_zret), (1478, o_ild 5 1480), (1480, o_if_ne 1494 1483), (1483, o_ald 3 1484), (1484, o_push (.int (iI (0))) 1485), (1485, o_lald 1486), (1486, o_lld 6 1488), (1488, o_lc_eq 1494 1492), (1492, o_push (.int (iI (0))) 1493), (1493, o_zret), (1494, o_goto 2630)]
theorem k_Lw_law_1418 (L : Nat) (xs : Nat → Int32) : ∀ x ∈ T_Lw_law_1418 L xs, SP (gS L xs) M_Lw_law x.1 x.2 := by
  obtain ⟨h1418, h1419, h1420, h1422, h1423, h1424, h1425, h1426, h1428, h1429, h1430, h1431⟩ := e0_Lw_law_1418
  obtain ⟨h1432, h1434, h1435, h1436, h1437, h1438, h1441, h1443, h1444, h1445, h1447, h1448⟩ := e1_Lw_law_1418
  obtain ⟨h1449, h1450, h1451, h1453, h1454, h1455, h1456, h1457, h1459, h1460, h1461, h1462⟩ := e2_Lw_law_1418
  obtain ⟨h1465, h1467, h1468, h1471, h1473, h1476, h1477, h1478, h1480, h1483, h1484, h1485⟩ := e3_Lw_law_1418
  obtain ⟨h1486, h1488, h1489, h1492, h1493, h1494⟩ := e4_Lw_law_1418
  refine acP (SP_of (s_aldn (M := M_Lw_law) (pc := 1418) (k := 1) h1418)) ?_
  refine acP (SP_of (s_aldn (M := M_Lw_law) (pc := 1419) (k := 0) h1419)) ?_
  refine acP (SP_of (s_ild (M := M_Lw_law) (pc := 1420) h1420)) ?_
  refine acP (SP_of (s_iconst (M := M_Lw_law) (pc := 1422) h1422 rfl)) ?_
  refine acP (SP_of (s_iadd (M := M_Lw_law) (pc := 1423) h1423)) ?_
  refine acP (s_sld (M := M_Lw_law) (pc := 1424) h1424) ?_
  refine acP (SP_of (s_aldn (M := M_Lw_law) (pc := 1425) (k := 0) h1425)) ?_
  refine acP (SP_of (s_ild (M := M_Lw_law) (pc := 1426) h1426)) ?_
  refine acP (SP_of (s_iconst (M := M_Lw_law) (pc := 1428) h1428 rfl)) ?_
  refine acP (SP_of (s_iadd (M := M_Lw_law) (pc := 1429) h1429)) ?_
  refine acP (s_sld (M := M_Lw_law) (pc := 1430) h1430) ?_
  refine acP (SP_of (s_aldn (M := M_Lw_law) (pc := 1431) (k := 0) h1431)) ?_
  refine acP (SP_of (s_ild (M := M_Lw_law) (pc := 1432) h1432)) ?_
  refine acP (SP_of (s_iconst (M := M_Lw_law) (pc := 1434) h1434 rfl)) ?_
  refine acP (SP_of (s_iadd (M := M_Lw_law) (pc := 1435) h1435)) ?_
  refine acP (s_sld (M := M_Lw_law) (pc := 1436) h1436) ?_
  refine acP (SP_of (s_aldn (M := M_Lw_law) (pc := 1437) (k := 3) h1437)) ?_
  refine acP (SP_of (s_callW (M := M_Lw_law) (pc := 1438) (mc1 := 1) (ms1 := 34) (z_law) h1438 rfl q_Lw_exact wd1476 wd1477)) ?_
  refine acP (SP_of (s_ist (M := M_Lw_law) (pc := 1441) h1441 (by decide))) ?_
  refine acP (SP_of (s_aldn (M := M_Lw_law) (pc := 1443) (k := 2) h1443)) ?_
  refine acP (SP_of (s_aldn (M := M_Lw_law) (pc := 1444) (k := 0) h1444)) ?_
  refine acP (SP_of (s_ild (M := M_Lw_law) (pc := 1445) h1445)) ?_
  refine acP (SP_of (s_iconst (M := M_Lw_law) (pc := 1447) h1447 rfl)) ?_
  refine acP (SP_of (s_iadd (M := M_Lw_law) (pc := 1448) h1448)) ?_
  refine acP (s_sld (M := M_Lw_law) (pc := 1449) h1449) ?_
  refine acP (SP_of (s_aldn (M := M_Lw_law) (pc := 1450) (k := 0) h1450)) ?_
  refine acP (SP_of (s_ild (M := M_Lw_law) (pc := 1451) h1451)) ?_
  refine acP (SP_of (s_iconst (M := M_Lw_law) (pc := 1453) h1453 rfl)) ?_
  refine acP (SP_of (s_iadd (M := M_Lw_law) (pc := 1454) h1454)) ?_
  refine acP (s_sld (M := M_Lw_law) (pc := 1455) h1455) ?_
  refine acP (SP_of (s_aldn (M := M_Lw_law) (pc := 1456) (k := 0) h1456)) ?_
  refine acP (SP_of (s_ild (M := M_Lw_law) (pc := 1457) h1457)) ?_
  refine acP (SP_of (s_iconst (M := M_Lw_law) (pc := 1459) h1459 rfl)) ?_
  refine acP (SP_of (s_iadd (M := M_Lw_law) (pc := 1460) h1460)) ?_
  refine acP (s_sld (M := M_Lw_law) (pc := 1461) h1461) ?_
  refine acP (SP_of (s_callV (M := M_Lw_law) (pc := 1462) (z_law) h1462 q_Mm_exact wd2172 wd2173 wd2174 rfl (T := TX8) (N := 29) rfl)) ?_
  refine acP (SP_of (s_lst (M := M_Lw_law) (pc := 1465) h1465 (by decide))) ?_
  refine acP (SP_of (s_aldn (M := M_Lw_law) (pc := 1467) (k := 2) h1467)) ?_
  refine acP (SP_of (s_callV (M := M_Lw_law) (pc := 1468) (z_law) h1468 q_Mm_thrown wd1679 wd1680 wd1681 rfl (T := TX8) (N := 29) rfl)) ?_
  refine acP (SP_of (s_ild (M := M_Lw_law) (pc := 1471) h1471)) ?_
  refine acP (SP_of (s_icmp_eq (M := M_Lw_law) (pc := 1473) h1473 (by decide))) ?_
  refine acP (SP_of (s_iconst (M := M_Lw_law) (pc := 1476) h1476 rfl)) ?_
  refine acP (SP_of (s_zret (M := M_Lw_law) (pc := 1477) h1477 rfl)) ?_
  refine acP (SP_of (s_ild (M := M_Lw_law) (pc := 1478) h1478)) ?_
  refine acP (SP_of (s_if_ne (M := M_Lw_law) (pc := 1480) h1480 (by decide))) ?_
  refine acP (SP_of (s_aldn (M := M_Lw_law) (pc := 1483) (k := 3) h1483)) ?_
  refine acP (SP_of (s_iconst (M := M_Lw_law) (pc := 1484) h1484 rfl)) ?_
  refine acP (SP_of (s_lald (M := M_Lw_law) (pc := 1485) h1485)) ?_
  refine acP (SP_of (s_lld (M := M_Lw_law) (pc := 1486) h1486)) ?_
  refine acP (SP_of (s_lc_eq (M := M_Lw_law) (pc := 1488) h1488 h1489 (by decide))) ?_
  refine acP (SP_of (s_iconst (M := M_Lw_law) (pc := 1492) h1492 rfl)) ?_
  refine acP (SP_of (s_zret (M := M_Lw_law) (pc := 1493) h1493 rfl)) ?_
  refine acP (SP_of (s_goto (M := M_Lw_law) (pc := 1494) h1494 (by decide))) ?_
  exact acP_nil
theorem e0_Lw_law_1497 : decode code 1497 = .ok (.aload_n 1, 1) ∧ decode code 1498 = .ok (.aload_n 0, 1) ∧ decode code 1499 = .ok (.iload 4, 2) ∧ decode code 1501 = .ok (.iconst 1, 1) ∧ decode code 1502 = .ok (.iadd, 1) ∧ decode code 1503 = .ok (.iaload, 1) ∧ decode code 1504 = .ok (.aload_n 0, 1) ∧ decode code 1505 = .ok (.iload 4, 2) ∧ decode code 1507 = .ok (.iconst 2, 1) ∧ decode code 1508 = .ok (.iadd, 1) ∧ decode code 1509 = .ok (.iaload, 1) ∧ decode code 1510 = .ok (.aload_n 0, 1) := by decide +kernel
theorem e1_Lw_law_1497 : decode code 1511 = .ok (.iload 4, 2) ∧ decode code 1513 = .ok (.iconst 3, 1) ∧ decode code 1514 = .ok (.iadd, 1) ∧ decode code 1515 = .ok (.iaload, 1) ∧ decode code 1516 = .ok (.aload_n 3, 1) ∧ decode code 1517 = .ok (.invokestatic 217, 3) ∧ decode code 1520 = .ok (.istore 5, 2) ∧ decode code 1522 = .ok (.aload_n 2, 1) ∧ decode code 1523 = .ok (.aload_n 0, 1) ∧ decode code 1524 = .ok (.iload 4, 2) ∧ decode code 1526 = .ok (.iconst 1, 1) ∧ decode code 1527 = .ok (.iadd, 1) := by decide +kernel
theorem e2_Lw_law_1497 : decode code 1528 = .ok (.iaload, 1) ∧ decode code 1529 = .ok (.aload_n 0, 1) ∧ decode code 1530 = .ok (.iload 4, 2) ∧ decode code 1532 = .ok (.iconst 2, 1) ∧ decode code 1533 = .ok (.iadd, 1) ∧ decode code 1534 = .ok (.iaload, 1) ∧ decode code 1535 = .ok (.aload_n 0, 1) ∧ decode code 1536 = .ok (.iload 4, 2) ∧ decode code 1538 = .ok (.iconst 3, 1) ∧ decode code 1539 = .ok (.iadd, 1) ∧ decode code 1540 = .ok (.iaload, 1) ∧ decode code 1541 = .ok (.invokevirtual 219, 3) := by decide +kernel
theorem e3_Lw_law_1497 : decode code 1544 = .ok (.istore 6, 2) ∧ decode code 1546 = .ok (.aload_n 2, 1) ∧ decode code 1547 = .ok (.invokevirtual 158, 3) ∧ decode code 1550 = .ok (.iload 5, 2) ∧ decode code 1552 = .ok (.if_icmp .eq 5, 3) ∧ decode code 1555 = .ok (.iconst 0, 1) ∧ decode code 1556 = .ok (.ireturn, 1) ∧ decode code 1557 = .ok (.iload 5, 2) ∧ decode code 1559 = .ok (.ifCond .ne 15, 3) ∧ decode code 1562 = .ok (.aload_n 3, 1) ∧ decode code 1563 = .ok (.iconst 0, 1) ∧ decode code 1564 = .ok (.laload, 1) := by decide +kernel
theorem e4_Lw_law_1497 : decode code 1565 = .ok (.iload 6, 2) ∧ decode code 1567 = .ok (.i2l, 1) ∧ decode code 1568 = .ok (.lcmp, 1) ∧ decode code 1569 = .ok (.ifCond .eq 5, 3) ∧ decode code 1572 = .ok (.iconst 0, 1) ∧ decode code 1573 = .ok (.ireturn, 1) ∧ decode code 1574 = .ok (.goto 1056, 3) := by decide +kernel
def T_Lw_law_1497 (L : Nat) (xs : Nat → Int32) : TT := [(1497, o_ald 1 1498), (1498, o_ald 0 1499), (1499, o_ild 4 1501), (1501, o_push (.int (iI (1))) 1502), (1502, o_iadd 1503), (1503, o_sld L xs 1504), (1504, o_ald 0 1505), (1505, o_ild 4 1507), (1507, o_push (.int (iI (2))) 1508), (1508, o_iadd 1509), (1509, o_sld L xs 1510), (1510, o_ald 0 1511), (1511, o_ild 4 1513), (1513, o_push (.int (iI (3))) 1514), (1514, o_iadd 1515), (1515, o_sld L xs 1516), (1516, o_ald 3 1517), (1517, o_callW M_Lw_why 5 1 34 1520), (1520, o_ist 5 1522), (1522, o_ald 2 1523), (1523, o_ald 0 1524), (1524, o_ild 4 1526), (1526, o_push (.int (iI (1))) 1527), (1527, o_iadd 1528), (1528, o_sld L xs 1529), (1529, o_ald 0 1530), (1530, o_ild 4 1532), (1532, o_push (.int (iI (2))) 1533), (1533, o_iadd 1534), (1534, o_sld L xs 1535), (1535, o_ald 0 1536), (1536, o_ild 4 1538), (1538, o_push (.int (iI (3))) 1539), (1539, o_iadd 1540), (1540, o_sld L xs 1541), (1541, o_callV M_Mm_why 8 4 1544), (1544, o_ist 6 1546), (1546, o_ald 2 1547), (1547, o_callV M_Mm_thrown 8 1 1550), (1550, o_ild 5 1552), (1552, o_icmp_eq 1557 1555), (1555, o_push (.int (iI (0))) 1556), (1556, o_zret), (1557, o_ild 5 1559), (1559, o_if_ne 1574 1562), (1562, o_ald 3 1563), (1563, o_push (.int (iI (0))) 1564), (1564, o_lald 1565), (1565, o_ild 6 1567), (1567, o_i2l 1568), (1568, o_lc_eq 1574 1572), (1572, o_push (.int (iI (0))) 1573), (1573, o_zret), (1574, o_goto 2630)]
theorem k_Lw_law_1497 (L : Nat) (xs : Nat → Int32) : ∀ x ∈ T_Lw_law_1497 L xs, SP (gS L xs) M_Lw_law x.1 x.2 := by
  obtain ⟨h1497, h1498, h1499, h1501, h1502, h1503, h1504, h1505, h1507, h1508, h1509, h1510⟩ := e0_Lw_law_1497
  obtain ⟨h1511, h1513, h1514, h1515, h1516, h1517, h1520, h1522, h1523, h1524, h1526, h1527⟩ := e1_Lw_law_1497
  obtain ⟨h1528, h1529, h1530, h1532, h1533, h1534, h1535, h1536, h1538, h1539, h1540, h1541⟩ := e2_Lw_law_1497
  obtain ⟨h1544, h1546, h1547, h1550, h1552, h1555, h1556, h1557, h1559, h1562, h1563, h1564⟩ := e3_Lw_law_1497
  obtain ⟨h1565, h1567, h1568, h1569, h1572, h1573, h1574⟩ := e4_Lw_law_1497
  refine acP (SP_of (s_aldn (M := M_Lw_law) (pc := 1497) (k := 1) h1497)) ?_
  refine acP (SP_of (s_aldn (M := M_Lw_law) (pc := 1498) (k := 0) h1498)) ?_
  refine acP (SP_of (s_ild (M := M_Lw_law) (pc := 1499) h1499)) ?_
  refine acP (SP_of (s_iconst (M := M_Lw_law) (pc := 1501) h1501 rfl)) ?_
  refine acP (SP_of (s_iadd (M := M_Lw_law) (pc := 1502) h1502)) ?_
  refine acP (s_sld (M := M_Lw_law) (pc := 1503) h1503) ?_
  refine acP (SP_of (s_aldn (M := M_Lw_law) (pc := 1504) (k := 0) h1504)) ?_
  refine acP (SP_of (s_ild (M := M_Lw_law) (pc := 1505) h1505)) ?_
  refine acP (SP_of (s_iconst (M := M_Lw_law) (pc := 1507) h1507 rfl)) ?_
  refine acP (SP_of (s_iadd (M := M_Lw_law) (pc := 1508) h1508)) ?_
  refine acP (s_sld (M := M_Lw_law) (pc := 1509) h1509) ?_
  refine acP (SP_of (s_aldn (M := M_Lw_law) (pc := 1510) (k := 0) h1510)) ?_
  refine acP (SP_of (s_ild (M := M_Lw_law) (pc := 1511) h1511)) ?_
  refine acP (SP_of (s_iconst (M := M_Lw_law) (pc := 1513) h1513 rfl)) ?_
  refine acP (SP_of (s_iadd (M := M_Lw_law) (pc := 1514) h1514)) ?_
  refine acP (s_sld (M := M_Lw_law) (pc := 1515) h1515) ?_
  refine acP (SP_of (s_aldn (M := M_Lw_law) (pc := 1516) (k := 3) h1516)) ?_
  refine acP (SP_of (s_callW (M := M_Lw_law) (pc := 1517) (mc1 := 1) (ms1 := 34) (z_law) h1517 rfl q_Lw_why wd1505 wd1506)) ?_
  refine acP (SP_of (s_ist (M := M_Lw_law) (pc := 1520) h1520 (by decide))) ?_
  refine acP (SP_of (s_aldn (M := M_Lw_law) (pc := 1522) (k := 2) h1522)) ?_
  refine acP (SP_of (s_aldn (M := M_Lw_law) (pc := 1523) (k := 0) h1523)) ?_
  refine acP (SP_of (s_ild (M := M_Lw_law) (pc := 1524) h1524)) ?_
  refine acP (SP_of (s_iconst (M := M_Lw_law) (pc := 1526) h1526 rfl)) ?_
  refine acP (SP_of (s_iadd (M := M_Lw_law) (pc := 1527) h1527)) ?_
  refine acP (s_sld (M := M_Lw_law) (pc := 1528) h1528) ?_
  refine acP (SP_of (s_aldn (M := M_Lw_law) (pc := 1529) (k := 0) h1529)) ?_
  refine acP (SP_of (s_ild (M := M_Lw_law) (pc := 1530) h1530)) ?_
  refine acP (SP_of (s_iconst (M := M_Lw_law) (pc := 1532) h1532 rfl)) ?_
  refine acP (SP_of (s_iadd (M := M_Lw_law) (pc := 1533) h1533)) ?_
  refine acP (s_sld (M := M_Lw_law) (pc := 1534) h1534) ?_
  refine acP (SP_of (s_aldn (M := M_Lw_law) (pc := 1535) (k := 0) h1535)) ?_
  refine acP (SP_of (s_ild (M := M_Lw_law) (pc := 1536) h1536)) ?_
  refine acP (SP_of (s_iconst (M := M_Lw_law) (pc := 1538) h1538 rfl)) ?_
  refine acP (SP_of (s_iadd (M := M_Lw_law) (pc := 1539) h1539)) ?_
  refine acP (s_sld (M := M_Lw_law) (pc := 1540) h1540) ?_
  refine acP (SP_of (s_callV (M := M_Lw_law) (pc := 1541) (z_law) h1541 q_Mm_why wd2184 wd2185 wd2186 rfl (T := TX8) (N := 29) rfl)) ?_
  refine acP (SP_of (s_ist (M := M_Lw_law) (pc := 1544) h1544 (by decide))) ?_
  refine acP (SP_of (s_aldn (M := M_Lw_law) (pc := 1546) (k := 2) h1546)) ?_
  refine acP (SP_of (s_callV (M := M_Lw_law) (pc := 1547) (z_law) h1547 q_Mm_thrown wd1679 wd1680 wd1681 rfl (T := TX8) (N := 29) rfl)) ?_
  refine acP (SP_of (s_ild (M := M_Lw_law) (pc := 1550) h1550)) ?_
  refine acP (SP_of (s_icmp_eq (M := M_Lw_law) (pc := 1552) h1552 (by decide))) ?_
  refine acP (SP_of (s_iconst (M := M_Lw_law) (pc := 1555) h1555 rfl)) ?_
  refine acP (SP_of (s_zret (M := M_Lw_law) (pc := 1556) h1556 rfl)) ?_
  refine acP (SP_of (s_ild (M := M_Lw_law) (pc := 1557) h1557)) ?_
  refine acP (SP_of (s_if_ne (M := M_Lw_law) (pc := 1559) h1559 (by decide))) ?_
  refine acP (SP_of (s_aldn (M := M_Lw_law) (pc := 1562) (k := 3) h1562)) ?_
  refine acP (SP_of (s_iconst (M := M_Lw_law) (pc := 1563) h1563 rfl)) ?_
  refine acP (SP_of (s_lald (M := M_Lw_law) (pc := 1564) h1564)) ?_
  refine acP (SP_of (s_ild (M := M_Lw_law) (pc := 1565) h1565)) ?_
  refine acP (SP_of (s_i2l (M := M_Lw_law) (pc := 1567) h1567)) ?_
  refine acP (SP_of (s_lc_eq (M := M_Lw_law) (pc := 1568) h1568 h1569 (by decide))) ?_
  refine acP (SP_of (s_iconst (M := M_Lw_law) (pc := 1572) h1572 rfl)) ?_
  refine acP (SP_of (s_zret (M := M_Lw_law) (pc := 1573) h1573 rfl)) ?_
  refine acP (SP_of (s_goto (M := M_Lw_law) (pc := 1574) h1574 (by decide))) ?_
  exact acP_nil
theorem e0_Lw_law_1577 : decode code 1577 = .ok (.aload_n 1, 1) ∧ decode code 1578 = .ok (.aload_n 0, 1) ∧ decode code 1579 = .ok (.iload 4, 2) ∧ decode code 1581 = .ok (.iconst 1, 1) ∧ decode code 1582 = .ok (.iadd, 1) ∧ decode code 1583 = .ok (.iaload, 1) ∧ decode code 1584 = .ok (.aload_n 3, 1) ∧ decode code 1585 = .ok (.invokestatic 220, 3) ∧ decode code 1588 = .ok (.istore 5, 2) ∧ decode code 1590 = .ok (.aload_n 2, 1) ∧ decode code 1591 = .ok (.aload_n 0, 1) ∧ decode code 1592 = .ok (.iload 4, 2) := by decide +kernel
theorem e1_Lw_law_1577 : decode code 1594 = .ok (.iconst 1, 1) ∧ decode code 1595 = .ok (.iadd, 1) ∧ decode code 1596 = .ok (.iaload, 1) ∧ decode code 1597 = .ok (.invokevirtual 222, 3) ∧ decode code 1600 = .ok (.istore 6, 2) ∧ decode code 1602 = .ok (.aload_n 2, 1) ∧ decode code 1603 = .ok (.invokevirtual 158, 3) ∧ decode code 1606 = .ok (.iload 5, 2) ∧ decode code 1608 = .ok (.if_icmp .eq 5, 3) ∧ decode code 1611 = .ok (.iconst 0, 1) ∧ decode code 1612 = .ok (.ireturn, 1) ∧ decode code 1613 = .ok (.iload 5, 2) := by decide +kernel
theorem e2_Lw_law_1577 : decode code 1615 = .ok (.ifCond .ne 15, 3) ∧ decode code 1618 = .ok (.aload_n 3, 1) ∧ decode code 1619 = .ok (.iconst 0, 1) ∧ decode code 1620 = .ok (.laload, 1) ∧ decode code 1621 = .ok (.iload 6, 2) ∧ decode code 1623 = .ok (.i2l, 1) ∧ decode code 1624 = .ok (.lcmp, 1) ∧ decode code 1625 = .ok (.ifCond .eq 5, 3) ∧ decode code 1628 = .ok (.iconst 0, 1) ∧ decode code 1629 = .ok (.ireturn, 1) ∧ decode code 1630 = .ok (.goto 1000, 3) := by decide +kernel
def T_Lw_law_1577 (L : Nat) (xs : Nat → Int32) : TT := [(1577, o_ald 1 1578), (1578, o_ald 0 1579), (1579, o_ild 4 1581), (1581, o_push (.int (iI (1))) 1582), (1582, o_iadd 1583), (1583, o_sld L xs 1584), (1584, o_ald 3 1585), (1585, o_callW M_Lw_faults 3 1 34 1588), (1588, o_ist 5 1590), (1590, o_ald 2 1591), (1591, o_ald 0 1592), (1592, o_ild 4 1594), (1594, o_push (.int (iI (1))) 1595), (1595, o_iadd 1596), (1596, o_sld L xs 1597), (1597, o_callV M_Mm_faults 8 2 1600), (1600, o_ist 6 1602), (1602, o_ald 2 1603), (1603, o_callV M_Mm_thrown 8 1 1606), (1606, o_ild 5 1608), (1608, o_icmp_eq 1613 1611), (1611, o_push (.int (iI (0))) 1612), (1612, o_zret), (1613, o_ild 5 1615), (1615, o_if_ne 1630 1618), (1618, o_ald 3 1619), (1619, o_push (.int (iI (0))) 1620), (1620, o_lald 1621), (1621, o_ild 6 1623), (1623, o_i2l 1624), (1624, o_lc_eq 1630 1628), (1628, o_push (.int (iI (0))) 1629), (1629, o_zret), (1630, o_goto 2630)]
theorem k_Lw_law_1577 (L : Nat) (xs : Nat → Int32) : ∀ x ∈ T_Lw_law_1577 L xs, SP (gS L xs) M_Lw_law x.1 x.2 := by
  obtain ⟨h1577, h1578, h1579, h1581, h1582, h1583, h1584, h1585, h1588, h1590, h1591, h1592⟩ := e0_Lw_law_1577
  obtain ⟨h1594, h1595, h1596, h1597, h1600, h1602, h1603, h1606, h1608, h1611, h1612, h1613⟩ := e1_Lw_law_1577
  obtain ⟨h1615, h1618, h1619, h1620, h1621, h1623, h1624, h1625, h1628, h1629, h1630⟩ := e2_Lw_law_1577
  refine acP (SP_of (s_aldn (M := M_Lw_law) (pc := 1577) (k := 1) h1577)) ?_
  refine acP (SP_of (s_aldn (M := M_Lw_law) (pc := 1578) (k := 0) h1578)) ?_
  refine acP (SP_of (s_ild (M := M_Lw_law) (pc := 1579) h1579)) ?_
  refine acP (SP_of (s_iconst (M := M_Lw_law) (pc := 1581) h1581 rfl)) ?_
  refine acP (SP_of (s_iadd (M := M_Lw_law) (pc := 1582) h1582)) ?_
  refine acP (s_sld (M := M_Lw_law) (pc := 1583) h1583) ?_
  refine acP (SP_of (s_aldn (M := M_Lw_law) (pc := 1584) (k := 3) h1584)) ?_
  refine acP (SP_of (s_callW (M := M_Lw_law) (pc := 1585) (mc1 := 1) (ms1 := 34) (z_law) h1585 rfl q_Lw_faults wd1514 wd1515)) ?_
  refine acP (SP_of (s_ist (M := M_Lw_law) (pc := 1588) h1588 (by decide))) ?_
  refine acP (SP_of (s_aldn (M := M_Lw_law) (pc := 1590) (k := 2) h1590)) ?_
  refine acP (SP_of (s_aldn (M := M_Lw_law) (pc := 1591) (k := 0) h1591)) ?_
  refine acP (SP_of (s_ild (M := M_Lw_law) (pc := 1592) h1592)) ?_
  refine acP (SP_of (s_iconst (M := M_Lw_law) (pc := 1594) h1594 rfl)) ?_
  refine acP (SP_of (s_iadd (M := M_Lw_law) (pc := 1595) h1595)) ?_
  refine acP (s_sld (M := M_Lw_law) (pc := 1596) h1596) ?_
  refine acP (SP_of (s_callV (M := M_Lw_law) (pc := 1597) (z_law) h1597 q_Mm_faults wd2188 wd2189 wd2190 rfl (T := TX8) (N := 29) rfl)) ?_
  refine acP (SP_of (s_ist (M := M_Lw_law) (pc := 1600) h1600 (by decide))) ?_
  refine acP (SP_of (s_aldn (M := M_Lw_law) (pc := 1602) (k := 2) h1602)) ?_
  refine acP (SP_of (s_callV (M := M_Lw_law) (pc := 1603) (z_law) h1603 q_Mm_thrown wd1679 wd1680 wd1681 rfl (T := TX8) (N := 29) rfl)) ?_
  refine acP (SP_of (s_ild (M := M_Lw_law) (pc := 1606) h1606)) ?_
  refine acP (SP_of (s_icmp_eq (M := M_Lw_law) (pc := 1608) h1608 (by decide))) ?_
  refine acP (SP_of (s_iconst (M := M_Lw_law) (pc := 1611) h1611 rfl)) ?_
  refine acP (SP_of (s_zret (M := M_Lw_law) (pc := 1612) h1612 rfl)) ?_
  refine acP (SP_of (s_ild (M := M_Lw_law) (pc := 1613) h1613)) ?_
  refine acP (SP_of (s_if_ne (M := M_Lw_law) (pc := 1615) h1615 (by decide))) ?_
  refine acP (SP_of (s_aldn (M := M_Lw_law) (pc := 1618) (k := 3) h1618)) ?_
  refine acP (SP_of (s_iconst (M := M_Lw_law) (pc := 1619) h1619 rfl)) ?_
  refine acP (SP_of (s_lald (M := M_Lw_law) (pc := 1620) h1620)) ?_
  refine acP (SP_of (s_ild (M := M_Lw_law) (pc := 1621) h1621)) ?_
  refine acP (SP_of (s_i2l (M := M_Lw_law) (pc := 1623) h1623)) ?_
  refine acP (SP_of (s_lc_eq (M := M_Lw_law) (pc := 1624) h1624 h1625 (by decide))) ?_
  refine acP (SP_of (s_iconst (M := M_Lw_law) (pc := 1628) h1628 rfl)) ?_
  refine acP (SP_of (s_zret (M := M_Lw_law) (pc := 1629) h1629 rfl)) ?_
  refine acP (SP_of (s_goto (M := M_Lw_law) (pc := 1630) h1630 (by decide))) ?_
  exact acP_nil
theorem e0_Lw_law_1633 : decode code 1633 = .ok (.aload_n 1, 1) ∧ decode code 1634 = .ok (.aload_n 0, 1) ∧ decode code 1635 = .ok (.iload 4, 2) ∧ decode code 1637 = .ok (.iconst 1, 1) ∧ decode code 1638 = .ok (.iadd, 1) ∧ decode code 1639 = .ok (.iaload, 1) ∧ decode code 1640 = .ok (.aload_n 0, 1) ∧ decode code 1641 = .ok (.iload 4, 2) ∧ decode code 1643 = .ok (.iconst 2, 1) ∧ decode code 1644 = .ok (.iadd, 1) ∧ decode code 1645 = .ok (.iaload, 1) ∧ decode code 1646 = .ok (.aload_n 0, 1) := by decide +kernel
theorem e1_Lw_law_1633 : decode code 1647 = .ok (.iload 4, 2) ∧ decode code 1649 = .ok (.iconst 3, 1) ∧ decode code 1650 = .ok (.iadd, 1) ∧ decode code 1651 = .ok (.iaload, 1) ∧ decode code 1652 = .ok (.aload_n 3, 1) ∧ decode code 1653 = .ok (.invokestatic 223, 3) ∧ decode code 1656 = .ok (.istore 5, 2) ∧ decode code 1658 = .ok (.aload_n 2, 1) ∧ decode code 1659 = .ok (.aload_n 0, 1) ∧ decode code 1660 = .ok (.iload 4, 2) ∧ decode code 1662 = .ok (.iconst 1, 1) ∧ decode code 1663 = .ok (.iadd, 1) := by decide +kernel
theorem e2_Lw_law_1633 : decode code 1664 = .ok (.iaload, 1) ∧ decode code 1665 = .ok (.aload_n 0, 1) ∧ decode code 1666 = .ok (.iload 4, 2) ∧ decode code 1668 = .ok (.iconst 2, 1) ∧ decode code 1669 = .ok (.iadd, 1) ∧ decode code 1670 = .ok (.iaload, 1) ∧ decode code 1671 = .ok (.aload_n 0, 1) ∧ decode code 1672 = .ok (.iload 4, 2) ∧ decode code 1674 = .ok (.iconst 3, 1) ∧ decode code 1675 = .ok (.iadd, 1) ∧ decode code 1676 = .ok (.iaload, 1) ∧ decode code 1677 = .ok (.invokevirtual 225, 3) := by decide +kernel
theorem e3_Lw_law_1633 : decode code 1680 = .ok (.lstore 6, 2) ∧ decode code 1682 = .ok (.aload_n 2, 1) ∧ decode code 1683 = .ok (.invokevirtual 158, 3) ∧ decode code 1686 = .ok (.iload 5, 2) ∧ decode code 1688 = .ok (.if_icmp .eq 5, 3) ∧ decode code 1691 = .ok (.iconst 0, 1) ∧ decode code 1692 = .ok (.ireturn, 1) ∧ decode code 1693 = .ok (.iload 5, 2) ∧ decode code 1695 = .ok (.ifCond .ne 14, 3) ∧ decode code 1698 = .ok (.aload_n 3, 1) ∧ decode code 1699 = .ok (.iconst 0, 1) ∧ decode code 1700 = .ok (.laload, 1) := by decide +kernel
theorem e4_Lw_law_1633 : decode code 1701 = .ok (.lload 6, 2) ∧ decode code 1703 = .ok (.lcmp, 1) ∧ decode code 1704 = .ok (.ifCond .eq 5, 3) ∧ decode code 1707 = .ok (.iconst 0, 1) ∧ decode code 1708 = .ok (.ireturn, 1) ∧ decode code 1709 = .ok (.goto 921, 3) := by decide +kernel
def T_Lw_law_1633 (L : Nat) (xs : Nat → Int32) : TT := [(1633, o_ald 1 1634), (1634, o_ald 0 1635), (1635, o_ild 4 1637), (1637, o_push (.int (iI (1))) 1638), (1638, o_iadd 1639), (1639, o_sld L xs 1640), (1640, o_ald 0 1641), (1641, o_ild 4 1643), (1643, o_push (.int (iI (2))) 1644), (1644, o_iadd 1645), (1645, o_sld L xs 1646), (1646, o_ald 0 1647), (1647, o_ild 4 1649), (1649, o_push (.int (iI (3))) 1650), (1650, o_iadd 1651), (1651, o_sld L xs 1652), (1652, o_ald 3 1653), (1653, o_callW M_Lw_numberWith 5 1 34 1656), (1656, o_ist 5 1658), (1658, o_ald 2 1659), (1659, o_ald 0 1660), (1660, o_ild 4 1662), (1662, o_push (.int (iI (1))) 1663), (1663, o_iadd 1664), (1664, o_sld L xs 1665), (1665, o_ald 0 1666), (1666, o_ild 4 1668), (1668, o_push (.int (iI (2))) 1669), (1669, o_iadd 1670), (1670, o_sld L xs 1671), (1671, o_ald 0 1672), (1672, o_ild 4 1674), (1674, o_push (.int (iI (3))) 1675), (1675, o_iadd 1676), (1676, o_sld L xs 1677), (1677, o_callV M_Mm_numberWith 8 4 1680), (1680, o_lst 6 1682), (1682, o_ald 2 1683), (1683, o_callV M_Mm_thrown 8 1 1686), (1686, o_ild 5 1688), (1688, o_icmp_eq 1693 1691), (1691, o_push (.int (iI (0))) 1692), (1692, o_zret), (1693, o_ild 5 1695), (1695, o_if_ne 1709 1698), (1698, o_ald 3 1699), (1699, o_push (.int (iI (0))) 1700), (1700, o_lald 1701), (1701, o_lld 6 1703), (1703, o_lc_eq 1709 1707), (1707, o_push (.int (iI (0))) 1708), (1708, o_zret), (1709, o_goto 2630)]
theorem k_Lw_law_1633 (L : Nat) (xs : Nat → Int32) : ∀ x ∈ T_Lw_law_1633 L xs, SP (gS L xs) M_Lw_law x.1 x.2 := by
  obtain ⟨h1633, h1634, h1635, h1637, h1638, h1639, h1640, h1641, h1643, h1644, h1645, h1646⟩ := e0_Lw_law_1633
  obtain ⟨h1647, h1649, h1650, h1651, h1652, h1653, h1656, h1658, h1659, h1660, h1662, h1663⟩ := e1_Lw_law_1633
  obtain ⟨h1664, h1665, h1666, h1668, h1669, h1670, h1671, h1672, h1674, h1675, h1676, h1677⟩ := e2_Lw_law_1633
  obtain ⟨h1680, h1682, h1683, h1686, h1688, h1691, h1692, h1693, h1695, h1698, h1699, h1700⟩ := e3_Lw_law_1633
  obtain ⟨h1701, h1703, h1704, h1707, h1708, h1709⟩ := e4_Lw_law_1633
  refine acP (SP_of (s_aldn (M := M_Lw_law) (pc := 1633) (k := 1) h1633)) ?_
  refine acP (SP_of (s_aldn (M := M_Lw_law) (pc := 1634) (k := 0) h1634)) ?_
  refine acP (SP_of (s_ild (M := M_Lw_law) (pc := 1635) h1635)) ?_
  refine acP (SP_of (s_iconst (M := M_Lw_law) (pc := 1637) h1637 rfl)) ?_
  refine acP (SP_of (s_iadd (M := M_Lw_law) (pc := 1638) h1638)) ?_
  refine acP (s_sld (M := M_Lw_law) (pc := 1639) h1639) ?_
  refine acP (SP_of (s_aldn (M := M_Lw_law) (pc := 1640) (k := 0) h1640)) ?_
  refine acP (SP_of (s_ild (M := M_Lw_law) (pc := 1641) h1641)) ?_
  refine acP (SP_of (s_iconst (M := M_Lw_law) (pc := 1643) h1643 rfl)) ?_
  refine acP (SP_of (s_iadd (M := M_Lw_law) (pc := 1644) h1644)) ?_
  refine acP (s_sld (M := M_Lw_law) (pc := 1645) h1645) ?_
  refine acP (SP_of (s_aldn (M := M_Lw_law) (pc := 1646) (k := 0) h1646)) ?_
  refine acP (SP_of (s_ild (M := M_Lw_law) (pc := 1647) h1647)) ?_
  refine acP (SP_of (s_iconst (M := M_Lw_law) (pc := 1649) h1649 rfl)) ?_
  refine acP (SP_of (s_iadd (M := M_Lw_law) (pc := 1650) h1650)) ?_
  refine acP (s_sld (M := M_Lw_law) (pc := 1651) h1651) ?_
  refine acP (SP_of (s_aldn (M := M_Lw_law) (pc := 1652) (k := 3) h1652)) ?_
  refine acP (SP_of (s_callW (M := M_Lw_law) (pc := 1653) (mc1 := 1) (ms1 := 34) (z_law) h1653 rfl q_Lw_numberWith wd1525 wd1526)) ?_
  refine acP (SP_of (s_ist (M := M_Lw_law) (pc := 1656) h1656 (by decide))) ?_
  refine acP (SP_of (s_aldn (M := M_Lw_law) (pc := 1658) (k := 2) h1658)) ?_
  refine acP (SP_of (s_aldn (M := M_Lw_law) (pc := 1659) (k := 0) h1659)) ?_
  refine acP (SP_of (s_ild (M := M_Lw_law) (pc := 1660) h1660)) ?_
  refine acP (SP_of (s_iconst (M := M_Lw_law) (pc := 1662) h1662 rfl)) ?_
  refine acP (SP_of (s_iadd (M := M_Lw_law) (pc := 1663) h1663)) ?_
  refine acP (s_sld (M := M_Lw_law) (pc := 1664) h1664) ?_
  refine acP (SP_of (s_aldn (M := M_Lw_law) (pc := 1665) (k := 0) h1665)) ?_
  refine acP (SP_of (s_ild (M := M_Lw_law) (pc := 1666) h1666)) ?_
  refine acP (SP_of (s_iconst (M := M_Lw_law) (pc := 1668) h1668 rfl)) ?_
  refine acP (SP_of (s_iadd (M := M_Lw_law) (pc := 1669) h1669)) ?_
  refine acP (s_sld (M := M_Lw_law) (pc := 1670) h1670) ?_
  refine acP (SP_of (s_aldn (M := M_Lw_law) (pc := 1671) (k := 0) h1671)) ?_
  refine acP (SP_of (s_ild (M := M_Lw_law) (pc := 1672) h1672)) ?_
  refine acP (SP_of (s_iconst (M := M_Lw_law) (pc := 1674) h1674 rfl)) ?_
  refine acP (SP_of (s_iadd (M := M_Lw_law) (pc := 1675) h1675)) ?_
  refine acP (s_sld (M := M_Lw_law) (pc := 1676) h1676) ?_
  refine acP (SP_of (s_callV (M := M_Lw_law) (pc := 1677) (z_law) h1677 q_Mm_numberWith wd2192 wd2193 wd2194 rfl (T := TX8) (N := 29) rfl)) ?_
  refine acP (SP_of (s_lst (M := M_Lw_law) (pc := 1680) h1680 (by decide))) ?_
  refine acP (SP_of (s_aldn (M := M_Lw_law) (pc := 1682) (k := 2) h1682)) ?_
  refine acP (SP_of (s_callV (M := M_Lw_law) (pc := 1683) (z_law) h1683 q_Mm_thrown wd1679 wd1680 wd1681 rfl (T := TX8) (N := 29) rfl)) ?_
  refine acP (SP_of (s_ild (M := M_Lw_law) (pc := 1686) h1686)) ?_
  refine acP (SP_of (s_icmp_eq (M := M_Lw_law) (pc := 1688) h1688 (by decide))) ?_
  refine acP (SP_of (s_iconst (M := M_Lw_law) (pc := 1691) h1691 rfl)) ?_
  refine acP (SP_of (s_zret (M := M_Lw_law) (pc := 1692) h1692 rfl)) ?_
  refine acP (SP_of (s_ild (M := M_Lw_law) (pc := 1693) h1693)) ?_
  refine acP (SP_of (s_if_ne (M := M_Lw_law) (pc := 1695) h1695 (by decide))) ?_
  refine acP (SP_of (s_aldn (M := M_Lw_law) (pc := 1698) (k := 3) h1698)) ?_
  refine acP (SP_of (s_iconst (M := M_Lw_law) (pc := 1699) h1699 rfl)) ?_
  refine acP (SP_of (s_lald (M := M_Lw_law) (pc := 1700) h1700)) ?_
  refine acP (SP_of (s_lld (M := M_Lw_law) (pc := 1701) h1701)) ?_
  refine acP (SP_of (s_lc_eq (M := M_Lw_law) (pc := 1703) h1703 h1704 (by decide))) ?_
  refine acP (SP_of (s_iconst (M := M_Lw_law) (pc := 1707) h1707 rfl)) ?_
  refine acP (SP_of (s_zret (M := M_Lw_law) (pc := 1708) h1708 rfl)) ?_
  refine acP (SP_of (s_goto (M := M_Lw_law) (pc := 1709) h1709 (by decide))) ?_
  exact acP_nil
theorem e0_Lw_law_1712 : decode code 1712 = .ok (.aload_n 1, 1) ∧ decode code 1713 = .ok (.invokevirtual 226, 3) ∧ decode code 1716 = .ok (.aload_n 2, 1) ∧ decode code 1717 = .ok (.invokevirtual 229, 3) ∧ decode code 1720 = .ok (.if_icmp .eq 910, 3) ∧ decode code 1723 = .ok (.iconst 0, 1) ∧ decode code 1724 = .ok (.ireturn, 1) := by decide +kernel
def T_Lw_law_1712 (L : Nat) (xs : Nat → Int32) : TT := [(1712, o_ald 1 1713), (1713, o_callV M_R_nextModulus 0 1 1716), (1716, o_ald 2 1717), (1717, o_callV M_Mm_nextModulus 8 1 1720), (1720, o_icmp_eq 2630 1723), (1723, o_push (.int (iI (0))) 1724), (1724, o_zret)]
theorem k_Lw_law_1712 (L : Nat) (xs : Nat → Int32) : ∀ x ∈ T_Lw_law_1712 L xs, SP (gS L xs) M_Lw_law x.1 x.2 := by
  obtain ⟨h1712, h1713, h1716, h1717, h1720, h1723, h1724⟩ := e0_Lw_law_1712
  refine acP (SP_of (s_aldn (M := M_Lw_law) (pc := 1712) (k := 1) h1712)) ?_
  refine acP (SP_of (s_callV (M := M_Lw_law) (pc := 1713) (z_law) h1713 q_R_nextModulus wd906 wd907 wd908 rfl (T := TX7) (N := 12) rfl)) ?_
  refine acP (SP_of (s_aldn (M := M_Lw_law) (pc := 1716) (k := 2) h1716)) ?_
  refine acP (SP_of (s_callV (M := M_Lw_law) (pc := 1717) (z_law) h1717 q_Mm_nextModulus wd2200 wd2201 wd2202 rfl (T := TX8) (N := 29) rfl)) ?_
  refine acP (SP_of (s_icmp_eq (M := M_Lw_law) (pc := 1720) h1720 (by decide))) ?_
  refine acP (SP_of (s_iconst (M := M_Lw_law) (pc := 1723) h1723 rfl)) ?_
  refine acP (SP_of (s_zret (M := M_Lw_law) (pc := 1724) h1724 rfl)) ?_
  exact acP_nil
theorem e0_Lw_law_1725 : decode code 1725 = .ok (.aload_n 1, 1) ∧ decode code 1726 = .ok (.invokevirtual 230, 3) ∧ decode code 1729 = .ok (.aload_n 2, 1) ∧ decode code 1730 = .ok (.invokevirtual 233, 3) ∧ decode code 1733 = .ok (.if_icmp .eq 897, 3) ∧ decode code 1736 = .ok (.iconst 0, 1) ∧ decode code 1737 = .ok (.ireturn, 1) := by decide +kernel
def T_Lw_law_1725 (L : Nat) (xs : Nat → Int32) : TT := [(1725, o_ald 1 1726), (1726, o_callV M_R_spare 0 1 1729), (1729, o_ald 2 1730), (1730, o_callV M_Mm_spare 8 1 1733), (1733, o_icmp_eq 2630 1736), (1736, o_push (.int (iI (0))) 1737), (1737, o_zret)]
theorem k_Lw_law_1725 (L : Nat) (xs : Nat → Int32) : ∀ x ∈ T_Lw_law_1725 L xs, SP (gS L xs) M_Lw_law x.1 x.2 := by
  obtain ⟨h1725, h1726, h1729, h1730, h1733, h1736, h1737⟩ := e0_Lw_law_1725
  refine acP (SP_of (s_aldn (M := M_Lw_law) (pc := 1725) (k := 1) h1725)) ?_
  refine acP (SP_of (s_callV (M := M_Lw_law) (pc := 1726) (z_law) h1726 q_R_spare wd916 wd917 wd918 rfl (T := TX7) (N := 12) rfl)) ?_
  refine acP (SP_of (s_aldn (M := M_Lw_law) (pc := 1729) (k := 2) h1729)) ?_
  refine acP (SP_of (s_callV (M := M_Lw_law) (pc := 1730) (z_law) h1730 q_Mm_spare wd2208 wd2209 wd2210 rfl (T := TX8) (N := 29) rfl)) ?_
  refine acP (SP_of (s_icmp_eq (M := M_Lw_law) (pc := 1733) h1733 (by decide))) ?_
  refine acP (SP_of (s_iconst (M := M_Lw_law) (pc := 1736) h1736 rfl)) ?_
  refine acP (SP_of (s_zret (M := M_Lw_law) (pc := 1737) h1737 rfl)) ?_
  exact acP_nil
theorem e0_Lw_law_1738 : decode code 1738 = .ok (.aload_n 1, 1) ∧ decode code 1739 = .ok (.invokevirtual 234, 3) ∧ decode code 1742 = .ok (.aload_n 2, 1) ∧ decode code 1743 = .ok (.invokevirtual 237, 3) ∧ decode code 1746 = .ok (.if_icmp .eq 884, 3) ∧ decode code 1749 = .ok (.iconst 0, 1) ∧ decode code 1750 = .ok (.ireturn, 1) := by decide +kernel
def T_Lw_law_1738 (L : Nat) (xs : Nat → Int32) : TT := [(1738, o_ald 1 1739), (1739, o_callV M_R_greatest 0 1 1742), (1742, o_ald 2 1743), (1743, o_callV M_Mm_greatest 8 1 1746), (1746, o_icmp_eq 2630 1749), (1749, o_push (.int (iI (0))) 1750), (1750, o_zret)]
theorem k_Lw_law_1738 (L : Nat) (xs : Nat → Int32) : ∀ x ∈ T_Lw_law_1738 L xs, SP (gS L xs) M_Lw_law x.1 x.2 := by
  obtain ⟨h1738, h1739, h1742, h1743, h1746, h1749, h1750⟩ := e0_Lw_law_1738
  refine acP (SP_of (s_aldn (M := M_Lw_law) (pc := 1738) (k := 1) h1738)) ?_
  refine acP (SP_of (s_callV (M := M_Lw_law) (pc := 1739) (z_law) h1739 q_R_greatest wd930 wd931 wd932 rfl (T := TX7) (N := 12) rfl)) ?_
  refine acP (SP_of (s_aldn (M := M_Lw_law) (pc := 1742) (k := 2) h1742)) ?_
  refine acP (SP_of (s_callV (M := M_Lw_law) (pc := 1743) (z_law) h1743 q_Mm_greatest wd2219 wd2220 wd2221 rfl (T := TX8) (N := 29) rfl)) ?_
  refine acP (SP_of (s_icmp_eq (M := M_Lw_law) (pc := 1746) h1746 (by decide))) ?_
  refine acP (SP_of (s_iconst (M := M_Lw_law) (pc := 1749) h1749 rfl)) ?_
  refine acP (SP_of (s_zret (M := M_Lw_law) (pc := 1750) h1750 rfl)) ?_
  exact acP_nil
theorem e0_Lw_law_1751 : decode code 1751 = .ok (.aload_n 1, 1) ∧ decode code 1752 = .ok (.invokevirtual 238, 3) ∧ decode code 1755 = .ok (.dstore 5, 2) ∧ decode code 1757 = .ok (.aload_n 2, 1) ∧ decode code 1758 = .ok (.invokevirtual 242, 3) ∧ decode code 1761 = .ok (.dstore 7, 2) ∧ decode code 1763 = .ok (.dload 5, 2) ∧ decode code 1765 = .ok (.dload 7, 2) ∧ decode code 1767 = .ok (.dcmp .l, 1) ∧ decode code 1768 = .ok (.ifCond .eq 21, 3) ∧ decode code 1771 = .ok (.dload 5, 2) ∧ decode code 1773 = .ok (.dload 5, 2) := by decide +kernel
theorem e1_Lw_law_1751 : decode code 1775 = .ok (.dcmp .l, 1) ∧ decode code 1776 = .ok (.ifCond .eq 11, 3) ∧ decode code 1779 = .ok (.dload 7, 2) ∧ decode code 1781 = .ok (.dload 7, 2) ∧ decode code 1783 = .ok (.dcmp .l, 1) ∧ decode code 1784 = .ok (.ifCond .ne 5, 3) ∧ decode code 1787 = .ok (.iconst 0, 1) ∧ decode code 1788 = .ok (.ireturn, 1) ∧ decode code 1789 = .ok (.goto 841, 3) := by decide +kernel
def T_Lw_law_1751 (L : Nat) (xs : Nat → Int32) : TT := [(1751, o_ald 1 1752), (1752, o_callV M_R_mean 0 1 1755), (1755, o_dst 5 1757), (1757, o_ald 2 1758), (1758, o_callV M_Mm_mean 8 1 1761), (1761, o_dst 7 1763), (1763, o_dld 5 1765), (1765, o_dld 7 1767), (1767, o_dcmp .l 1768), (1768, o_if_eq 1789 1771), (1771, o_dld 5 1773), (1773, o_dld 5 1775), (1775, o_dcmp .l 1776), (1776, o_if_eq 1787 1779), (1779, o_dld 7 1781), (1781, o_dld 7 1783), (1783, o_dcmp .l 1784), (1784, o_if_ne 1789 1787), (1787, o_push (.int (iI (0))) 1788), (1788, o_zret), (1789, o_goto 2630)]
theorem k_Lw_law_1751 (L : Nat) (xs : Nat → Int32) : ∀ x ∈ T_Lw_law_1751 L xs, SP (gS L xs) M_Lw_law x.1 x.2 := by
  obtain ⟨h1751, h1752, h1755, h1757, h1758, h1761, h1763, h1765, h1767, h1768, h1771, h1773⟩ := e0_Lw_law_1751
  obtain ⟨h1775, h1776, h1779, h1781, h1783, h1784, h1787, h1788, h1789⟩ := e1_Lw_law_1751
  refine acP (SP_of (s_aldn (M := M_Lw_law) (pc := 1751) (k := 1) h1751)) ?_
  refine acP (SP_of (s_callV (M := M_Lw_law) (pc := 1752) (z_law) h1752 q_R_mean wd935 wd936 wd937 rfl (T := TX7) (N := 12) rfl)) ?_
  refine acP (SP_of (s_dst (M := M_Lw_law) (pc := 1755) h1755 (by decide))) ?_
  refine acP (SP_of (s_aldn (M := M_Lw_law) (pc := 1757) (k := 2) h1757)) ?_
  refine acP (SP_of (s_callV (M := M_Lw_law) (pc := 1758) (z_law) h1758 q_Mm_mean wd2227 wd2228 wd2229 rfl (T := TX8) (N := 29) rfl)) ?_
  refine acP (SP_of (s_dst (M := M_Lw_law) (pc := 1761) h1761 (by decide))) ?_
  refine acP (SP_of (s_dld (M := M_Lw_law) (pc := 1763) h1763)) ?_
  refine acP (SP_of (s_dld (M := M_Lw_law) (pc := 1765) h1765)) ?_
  refine acP (SP_of (s_dcmp (M := M_Lw_law) (pc := 1767) h1767)) ?_
  refine acP (SP_of (s_if_eq (M := M_Lw_law) (pc := 1768) h1768 (by decide))) ?_
  refine acP (SP_of (s_dld (M := M_Lw_law) (pc := 1771) h1771)) ?_
  refine acP (SP_of (s_dld (M := M_Lw_law) (pc := 1773) h1773)) ?_
  refine acP (SP_of (s_dcmp (M := M_Lw_law) (pc := 1775) h1775)) ?_
  refine acP (SP_of (s_if_eq (M := M_Lw_law) (pc := 1776) h1776 (by decide))) ?_
  refine acP (SP_of (s_dld (M := M_Lw_law) (pc := 1779) h1779)) ?_
  refine acP (SP_of (s_dld (M := M_Lw_law) (pc := 1781) h1781)) ?_
  refine acP (SP_of (s_dcmp (M := M_Lw_law) (pc := 1783) h1783)) ?_
  refine acP (SP_of (s_if_ne (M := M_Lw_law) (pc := 1784) h1784 (by decide))) ?_
  refine acP (SP_of (s_iconst (M := M_Lw_law) (pc := 1787) h1787 rfl)) ?_
  refine acP (SP_of (s_zret (M := M_Lw_law) (pc := 1788) h1788 rfl)) ?_
  refine acP (SP_of (s_goto (M := M_Lw_law) (pc := 1789) h1789 (by decide))) ?_
  exact acP_nil
theorem e0_Lw_law_1792 : decode code 1792 = .ok (.aload_n 1, 1) ∧ decode code 1793 = .ok (.invokevirtual 243, 3) ∧ decode code 1796 = .ok (.f2d, 1) ∧ decode code 1797 = .ok (.dstore 5, 2) ∧ decode code 1799 = .ok (.aload_n 2, 1) ∧ decode code 1800 = .ok (.invokevirtual 247, 3) ∧ decode code 1803 = .ok (.f2d, 1) ∧ decode code 1804 = .ok (.dstore 7, 2) ∧ decode code 1806 = .ok (.dload 5, 2) ∧ decode code 1808 = .ok (.dload 7, 2) ∧ decode code 1810 = .ok (.dcmp .l, 1) ∧ decode code 1811 = .ok (.ifCond .eq 21, 3) := by decide +kernel
theorem e1_Lw_law_1792 : decode code 1814 = .ok (.dload 5, 2) ∧ decode code 1816 = .ok (.dload 5, 2) ∧ decode code 1818 = .ok (.dcmp .l, 1) ∧ decode code 1819 = .ok (.ifCond .eq 11, 3) ∧ decode code 1822 = .ok (.dload 7, 2) ∧ decode code 1824 = .ok (.dload 7, 2) ∧ decode code 1826 = .ok (.dcmp .l, 1) ∧ decode code 1827 = .ok (.ifCond .ne 5, 3) ∧ decode code 1830 = .ok (.iconst 0, 1) ∧ decode code 1831 = .ok (.ireturn, 1) ∧ decode code 1832 = .ok (.goto 798, 3) := by decide +kernel
def T_Lw_law_1792 (L : Nat) (xs : Nat → Int32) : TT := [(1792, o_ald 1 1793), (1793, o_callV M_R_zeroShare 0 1 1796), (1796, o_f2d 1797), (1797, o_dst 5 1799), (1799, o_ald 2 1800), (1800, o_callV M_Mm_zeroShare 8 1 1803), (1803, o_f2d 1804), (1804, o_dst 7 1806), (1806, o_dld 5 1808), (1808, o_dld 7 1810), (1810, o_dcmp .l 1811), (1811, o_if_eq 1832 1814), (1814, o_dld 5 1816), (1816, o_dld 5 1818), (1818, o_dcmp .l 1819), (1819, o_if_eq 1830 1822), (1822, o_dld 7 1824), (1824, o_dld 7 1826), (1826, o_dcmp .l 1827), (1827, o_if_ne 1832 1830), (1830, o_push (.int (iI (0))) 1831), (1831, o_zret), (1832, o_goto 2630)]
theorem k_Lw_law_1792 (L : Nat) (xs : Nat → Int32) : ∀ x ∈ T_Lw_law_1792 L xs, SP (gS L xs) M_Lw_law x.1 x.2 := by
  obtain ⟨h1792, h1793, h1796, h1797, h1799, h1800, h1803, h1804, h1806, h1808, h1810, h1811⟩ := e0_Lw_law_1792
  obtain ⟨h1814, h1816, h1818, h1819, h1822, h1824, h1826, h1827, h1830, h1831, h1832⟩ := e1_Lw_law_1792
  refine acP (SP_of (s_aldn (M := M_Lw_law) (pc := 1792) (k := 1) h1792)) ?_
  refine acP (SP_of (s_callV (M := M_Lw_law) (pc := 1793) (z_law) h1793 q_R_zeroShare wd940 wd941 wd942 rfl (T := TX7) (N := 12) rfl)) ?_
  refine acP (SP_of (s_f2d (M := M_Lw_law) (pc := 1796) h1796)) ?_
  refine acP (SP_of (s_dst (M := M_Lw_law) (pc := 1797) h1797 (by decide))) ?_
  refine acP (SP_of (s_aldn (M := M_Lw_law) (pc := 1799) (k := 2) h1799)) ?_
  refine acP (SP_of (s_callV (M := M_Lw_law) (pc := 1800) (z_law) h1800 q_Mm_zeroShare wd2232 wd2233 wd2234 rfl (T := TX8) (N := 29) rfl)) ?_
  refine acP (SP_of (s_f2d (M := M_Lw_law) (pc := 1803) h1803)) ?_
  refine acP (SP_of (s_dst (M := M_Lw_law) (pc := 1804) h1804 (by decide))) ?_
  refine acP (SP_of (s_dld (M := M_Lw_law) (pc := 1806) h1806)) ?_
  refine acP (SP_of (s_dld (M := M_Lw_law) (pc := 1808) h1808)) ?_
  refine acP (SP_of (s_dcmp (M := M_Lw_law) (pc := 1810) h1810)) ?_
  refine acP (SP_of (s_if_eq (M := M_Lw_law) (pc := 1811) h1811 (by decide))) ?_
  refine acP (SP_of (s_dld (M := M_Lw_law) (pc := 1814) h1814)) ?_
  refine acP (SP_of (s_dld (M := M_Lw_law) (pc := 1816) h1816)) ?_
  refine acP (SP_of (s_dcmp (M := M_Lw_law) (pc := 1818) h1818)) ?_
  refine acP (SP_of (s_if_eq (M := M_Lw_law) (pc := 1819) h1819 (by decide))) ?_
  refine acP (SP_of (s_dld (M := M_Lw_law) (pc := 1822) h1822)) ?_
  refine acP (SP_of (s_dld (M := M_Lw_law) (pc := 1824) h1824)) ?_
  refine acP (SP_of (s_dcmp (M := M_Lw_law) (pc := 1826) h1826)) ?_
  refine acP (SP_of (s_if_ne (M := M_Lw_law) (pc := 1827) h1827 (by decide))) ?_
  refine acP (SP_of (s_iconst (M := M_Lw_law) (pc := 1830) h1830 rfl)) ?_
  refine acP (SP_of (s_zret (M := M_Lw_law) (pc := 1831) h1831 rfl)) ?_
  refine acP (SP_of (s_goto (M := M_Lw_law) (pc := 1832) h1832 (by decide))) ?_
  exact acP_nil
theorem e0_Lw_law_1835 : decode code 1835 = .ok (.aload_n 1, 1) ∧ decode code 1836 = .ok (.aload_n 0, 1) ∧ decode code 1837 = .ok (.iload 4, 2) ∧ decode code 1839 = .ok (.iconst 1, 1) ∧ decode code 1840 = .ok (.iadd, 1) ∧ decode code 1841 = .ok (.iaload, 1) ∧ decode code 1842 = .ok (.aload_n 0, 1) ∧ decode code 1843 = .ok (.iload 4, 2) ∧ decode code 1845 = .ok (.iconst 2, 1) ∧ decode code 1846 = .ok (.iadd, 1) ∧ decode code 1847 = .ok (.iaload, 1) ∧ decode code 1848 = .ok (.aload_n 3, 1) := by decide +kernel
theorem e1_Lw_law_1835 : decode code 1849 = .ok (.invokestatic 248, 3) ∧ decode code 1852 = .ok (.istore 5, 2) ∧ decode code 1854 = .ok (.aload_n 2, 1) ∧ decode code 1855 = .ok (.aload_n 0, 1) ∧ decode code 1856 = .ok (.iload 4, 2) ∧ decode code 1858 = .ok (.iconst 1, 1) ∧ decode code 1859 = .ok (.iadd, 1) ∧ decode code 1860 = .ok (.iaload, 1) ∧ decode code 1861 = .ok (.aload_n 0, 1) ∧ decode code 1862 = .ok (.iload 4, 2) ∧ decode code 1864 = .ok (.iconst 2, 1) ∧ decode code 1865 = .ok (.iadd, 1) := by decide +kernel
theorem e2_Lw_law_1835 : decode code 1866 = .ok (.iaload, 1) ∧ decode code 1867 = .ok (.invokevirtual 250, 3) ∧ decode code 1870 = .ok (.istore 6, 2) ∧ decode code 1872 = .ok (.aload_n 2, 1) ∧ decode code 1873 = .ok (.invokevirtual 158, 3) ∧ decode code 1876 = .ok (.iload 5, 2) ∧ decode code 1878 = .ok (.if_icmp .eq 5, 3) ∧ decode code 1881 = .ok (.iconst 0, 1) ∧ decode code 1882 = .ok (.ireturn, 1) ∧ decode code 1883 = .ok (.iload 5, 2) ∧ decode code 1885 = .ok (.ifCond .ne 15, 3) ∧ decode code 1888 = .ok (.aload_n 3, 1) := by decide +kernel
theorem e3_Lw_law_1835 : decode code 1889 = .ok (.iconst 0, 1) ∧ decode code 1890 = .ok (.laload, 1) ∧ decode code 1891 = .ok (.iload 6, 2) ∧ decode code 1893 = .ok (.i2l, 1) ∧ decode code 1894 = .ok (.lcmp, 1) ∧ decode code 1895 = .ok (.ifCond .eq 5, 3) ∧ decode code 1898 = .ok (.iconst 0, 1) ∧ decode code 1899 = .ok (.ireturn, 1) ∧ decode code 1900 = .ok (.goto 730, 3) := by decide +kernel
def T_Lw_law_1835 (L : Nat) (xs : Nat → Int32) : TT := [(1835, o_ald 1 1836), (1836, o_ald 0 1837), (1837, o_ild 4 1839), (1839, o_push (.int (iI (1))) 1840), (1840, o_iadd 1841), (1841, o_sld L xs 1842), (1842, o_ald 0 1843), (1843, o_ild 4 1845), (1845, o_push (.int (iI (2))) 1846), (1846, o_iadd 1847), (1847, o_sld L xs 1848), (1848, o_ald 3 1849), (1849, o_callW M_Lw_set 4 1 34 1852), (1852, o_ist 5 1854), (1854, o_ald 2 1855), (1855, o_ald 0 1856), (1856, o_ild 4 1858), (1858, o_push (.int (iI (1))) 1859), (1859, o_iadd 1860), (1860, o_sld L xs 1861), (1861, o_ald 0 1862), (1862, o_ild 4 1864), (1864, o_push (.int (iI (2))) 1865), (1865, o_iadd 1866), (1866, o_sld L xs 1867), (1867, o_callV M_Mm_set 8 3 1870), (1870, o_ist 6 1872), (1872, o_ald 2 1873), (1873, o_callV M_Mm_thrown 8 1 1876), (1876, o_ild 5 1878), (1878, o_icmp_eq 1883 1881), (1881, o_push (.int (iI (0))) 1882), (1882, o_zret), (1883, o_ild 5 1885), (1885, o_if_ne 1900 1888), (1888, o_ald 3 1889), (1889, o_push (.int (iI (0))) 1890), (1890, o_lald 1891), (1891, o_ild 6 1893), (1893, o_i2l 1894), (1894, o_lc_eq 1900 1898), (1898, o_push (.int (iI (0))) 1899), (1899, o_zret), (1900, o_goto 2630)]
theorem k_Lw_law_1835 (L : Nat) (xs : Nat → Int32) : ∀ x ∈ T_Lw_law_1835 L xs, SP (gS L xs) M_Lw_law x.1 x.2 := by
  obtain ⟨h1835, h1836, h1837, h1839, h1840, h1841, h1842, h1843, h1845, h1846, h1847, h1848⟩ := e0_Lw_law_1835
  obtain ⟨h1849, h1852, h1854, h1855, h1856, h1858, h1859, h1860, h1861, h1862, h1864, h1865⟩ := e1_Lw_law_1835
  obtain ⟨h1866, h1867, h1870, h1872, h1873, h1876, h1878, h1881, h1882, h1883, h1885, h1888⟩ := e2_Lw_law_1835
  obtain ⟨h1889, h1890, h1891, h1893, h1894, h1895, h1898, h1899, h1900⟩ := e3_Lw_law_1835
  refine acP (SP_of (s_aldn (M := M_Lw_law) (pc := 1835) (k := 1) h1835)) ?_
  refine acP (SP_of (s_aldn (M := M_Lw_law) (pc := 1836) (k := 0) h1836)) ?_
  refine acP (SP_of (s_ild (M := M_Lw_law) (pc := 1837) h1837)) ?_
  refine acP (SP_of (s_iconst (M := M_Lw_law) (pc := 1839) h1839 rfl)) ?_
  refine acP (SP_of (s_iadd (M := M_Lw_law) (pc := 1840) h1840)) ?_
  refine acP (s_sld (M := M_Lw_law) (pc := 1841) h1841) ?_
  refine acP (SP_of (s_aldn (M := M_Lw_law) (pc := 1842) (k := 0) h1842)) ?_
  refine acP (SP_of (s_ild (M := M_Lw_law) (pc := 1843) h1843)) ?_
  refine acP (SP_of (s_iconst (M := M_Lw_law) (pc := 1845) h1845 rfl)) ?_
  refine acP (SP_of (s_iadd (M := M_Lw_law) (pc := 1846) h1846)) ?_
  refine acP (s_sld (M := M_Lw_law) (pc := 1847) h1847) ?_
  refine acP (SP_of (s_aldn (M := M_Lw_law) (pc := 1848) (k := 3) h1848)) ?_
  refine acP (SP_of (s_callW (M := M_Lw_law) (pc := 1849) (mc1 := 1) (ms1 := 34) (z_law) h1849 rfl q_Lw_set wd1537 wd1538)) ?_
  refine acP (SP_of (s_ist (M := M_Lw_law) (pc := 1852) h1852 (by decide))) ?_
  refine acP (SP_of (s_aldn (M := M_Lw_law) (pc := 1854) (k := 2) h1854)) ?_
  refine acP (SP_of (s_aldn (M := M_Lw_law) (pc := 1855) (k := 0) h1855)) ?_
  refine acP (SP_of (s_ild (M := M_Lw_law) (pc := 1856) h1856)) ?_
  refine acP (SP_of (s_iconst (M := M_Lw_law) (pc := 1858) h1858 rfl)) ?_
  refine acP (SP_of (s_iadd (M := M_Lw_law) (pc := 1859) h1859)) ?_
  refine acP (s_sld (M := M_Lw_law) (pc := 1860) h1860) ?_
  refine acP (SP_of (s_aldn (M := M_Lw_law) (pc := 1861) (k := 0) h1861)) ?_
  refine acP (SP_of (s_ild (M := M_Lw_law) (pc := 1862) h1862)) ?_
  refine acP (SP_of (s_iconst (M := M_Lw_law) (pc := 1864) h1864 rfl)) ?_
  refine acP (SP_of (s_iadd (M := M_Lw_law) (pc := 1865) h1865)) ?_
  refine acP (s_sld (M := M_Lw_law) (pc := 1866) h1866) ?_
  refine acP (SP_of (s_callV (M := M_Lw_law) (pc := 1867) (z_law) h1867 q_Mm_set wd2236 wd2237 wd2238 rfl (T := TX8) (N := 29) rfl)) ?_
  refine acP (SP_of (s_ist (M := M_Lw_law) (pc := 1870) h1870 (by decide))) ?_
  refine acP (SP_of (s_aldn (M := M_Lw_law) (pc := 1872) (k := 2) h1872)) ?_
  refine acP (SP_of (s_callV (M := M_Lw_law) (pc := 1873) (z_law) h1873 q_Mm_thrown wd1679 wd1680 wd1681 rfl (T := TX8) (N := 29) rfl)) ?_
  refine acP (SP_of (s_ild (M := M_Lw_law) (pc := 1876) h1876)) ?_
  refine acP (SP_of (s_icmp_eq (M := M_Lw_law) (pc := 1878) h1878 (by decide))) ?_
  refine acP (SP_of (s_iconst (M := M_Lw_law) (pc := 1881) h1881 rfl)) ?_
  refine acP (SP_of (s_zret (M := M_Lw_law) (pc := 1882) h1882 rfl)) ?_
  refine acP (SP_of (s_ild (M := M_Lw_law) (pc := 1883) h1883)) ?_
  refine acP (SP_of (s_if_ne (M := M_Lw_law) (pc := 1885) h1885 (by decide))) ?_
  refine acP (SP_of (s_aldn (M := M_Lw_law) (pc := 1888) (k := 3) h1888)) ?_
  refine acP (SP_of (s_iconst (M := M_Lw_law) (pc := 1889) h1889 rfl)) ?_
  refine acP (SP_of (s_lald (M := M_Lw_law) (pc := 1890) h1890)) ?_
  refine acP (SP_of (s_ild (M := M_Lw_law) (pc := 1891) h1891)) ?_
  refine acP (SP_of (s_i2l (M := M_Lw_law) (pc := 1893) h1893)) ?_
  refine acP (SP_of (s_lc_eq (M := M_Lw_law) (pc := 1894) h1894 h1895 (by decide))) ?_
  refine acP (SP_of (s_iconst (M := M_Lw_law) (pc := 1898) h1898 rfl)) ?_
  refine acP (SP_of (s_zret (M := M_Lw_law) (pc := 1899) h1899 rfl)) ?_
  refine acP (SP_of (s_goto (M := M_Lw_law) (pc := 1900) h1900 (by decide))) ?_
  exact acP_nil
theorem e0_Lw_law_1903 : decode code 1903 = .ok (.aload_n 1, 1) ∧ decode code 1904 = .ok (.aload_n 0, 1) ∧ decode code 1905 = .ok (.iload 4, 2) ∧ decode code 1907 = .ok (.iconst 1, 1) ∧ decode code 1908 = .ok (.iadd, 1) ∧ decode code 1909 = .ok (.iaload, 1) ∧ decode code 1910 = .ok (.aload_n 0, 1) ∧ decode code 1911 = .ok (.iload 4, 2) ∧ decode code 1913 = .ok (.iconst 2, 1) ∧ decode code 1914 = .ok (.iadd, 1) ∧ decode code 1915 = .ok (.iaload, 1) ∧ decode code 1916 = .ok (.aload_n 0, 1) := by decide +kernel
theorem e1_Lw_law_1903 : decode code 1917 = .ok (.iload 4, 2) ∧ decode code 1919 = .ok (.iconst 3, 1) ∧ decode code 1920 = .ok (.iadd, 1) ∧ decode code 1921 = .ok (.iaload, 1) ∧ decode code 1922 = .ok (.aload_n 3, 1) ∧ decode code 1923 = .ok (.invokestatic 251, 3) ∧ decode code 1926 = .ok (.istore 5, 2) ∧ decode code 1928 = .ok (.aload_n 2, 1) ∧ decode code 1929 = .ok (.aload_n 0, 1) ∧ decode code 1930 = .ok (.iload 4, 2) ∧ decode code 1932 = .ok (.iconst 1, 1) ∧ decode code 1933 = .ok (.iadd, 1) := by decide +kernel
theorem e2_Lw_law_1903 : decode code 1934 = .ok (.iaload, 1) ∧ decode code 1935 = .ok (.aload_n 0, 1) ∧ decode code 1936 = .ok (.iload 4, 2) ∧ decode code 1938 = .ok (.iconst 2, 1) ∧ decode code 1939 = .ok (.iadd, 1) ∧ decode code 1940 = .ok (.iaload, 1) ∧ decode code 1941 = .ok (.aload_n 0, 1) ∧ decode code 1942 = .ok (.iload 4, 2) ∧ decode code 1944 = .ok (.iconst 3, 1) ∧ decode code 1945 = .ok (.iadd, 1) ∧ decode code 1946 = .ok (.iaload, 1) ∧ decode code 1947 = .ok (.invokevirtual 253, 3) := by decide +kernel
theorem e3_Lw_law_1903 : decode code 1950 = .ok (.istore 6, 2) ∧ decode code 1952 = .ok (.aload_n 2, 1) ∧ decode code 1953 = .ok (.invokevirtual 158, 3) ∧ decode code 1956 = .ok (.iload 5, 2) ∧ decode code 1958 = .ok (.if_icmp .eq 5, 3) ∧ decode code 1961 = .ok (.iconst 0, 1) ∧ decode code 1962 = .ok (.ireturn, 1) ∧ decode code 1963 = .ok (.iload 5, 2) ∧ decode code 1965 = .ok (.ifCond .ne 15, 3) ∧ decode code 1968 = .ok (.aload_n 3, 1) ∧ decode code 1969 = .ok (.iconst 0, 1) ∧ decode code 1970 = .ok (.laload, 1) := by decide +kernel
theorem e4_Lw_law_1903 : decode code 1971 = .ok (.iload 6, 2) ∧ decode code 1973 = .ok (.i2l, 1) ∧ decode code 1974 = .ok (.lcmp, 1) ∧ decode code 1975 = .ok (.ifCond .eq 5, 3) ∧ decode code 1978 = .ok (.iconst 0, 1) ∧ decode code 1979 = .ok (.ireturn, 1) ∧ decode code 1980 = .ok (.goto 650, 3) := by decide +kernel
def T_Lw_law_1903 (L : Nat) (xs : Nat → Int32) : TT := [(1903, o_ald 1 1904), (1904, o_ald 0 1905), (1905, o_ild 4 1907), (1907, o_push (.int (iI (1))) 1908), (1908, o_iadd 1909), (1909, o_sld L xs 1910), (1910, o_ald 0 1911), (1911, o_ild 4 1913), (1913, o_push (.int (iI (2))) 1914), (1914, o_iadd 1915), (1915, o_sld L xs 1916), (1916, o_ald 0 1917), (1917, o_ild 4 1919), (1919, o_push (.int (iI (3))) 1920), (1920, o_iadd 1921), (1921, o_sld L xs 1922), (1922, o_ald 3 1923), (1923, o_callW M_Lw_hurt 5 1 34 1926), (1926, o_ist 5 1928), (1928, o_ald 2 1929), (1929, o_ald 0 1930), (1930, o_ild 4 1932), (1932, o_push (.int (iI (1))) 1933), (1933, o_iadd 1934), (1934, o_sld L xs 1935), (1935, o_ald 0 1936), (1936, o_ild 4 1938), (1938, o_push (.int (iI (2))) 1939), (1939, o_iadd 1940), (1940, o_sld L xs 1941), (1941, o_ald 0 1942), (1942, o_ild 4 1944), (1944, o_push (.int (iI (3))) 1945), (1945, o_iadd 1946), (1946, o_sld L xs 1947), (1947, o_callV M_Mm_hurt 8 4 1950), (1950, o_ist 6 1952), (1952, o_ald 2 1953), (1953, o_callV M_Mm_thrown 8 1 1956), (1956, o_ild 5 1958), (1958, o_icmp_eq 1963 1961), (1961, o_push (.int (iI (0))) 1962), (1962, o_zret), (1963, o_ild 5 1965), (1965, o_if_ne 1980 1968), (1968, o_ald 3 1969), (1969, o_push (.int (iI (0))) 1970), (1970, o_lald 1971), (1971, o_ild 6 1973), (1973, o_i2l 1974), (1974, o_lc_eq 1980 1978), (1978, o_push (.int (iI (0))) 1979), (1979, o_zret), (1980, o_goto 2630)]
theorem k_Lw_law_1903 (L : Nat) (xs : Nat → Int32) : ∀ x ∈ T_Lw_law_1903 L xs, SP (gS L xs) M_Lw_law x.1 x.2 := by
  obtain ⟨h1903, h1904, h1905, h1907, h1908, h1909, h1910, h1911, h1913, h1914, h1915, h1916⟩ := e0_Lw_law_1903
  obtain ⟨h1917, h1919, h1920, h1921, h1922, h1923, h1926, h1928, h1929, h1930, h1932, h1933⟩ := e1_Lw_law_1903
  obtain ⟨h1934, h1935, h1936, h1938, h1939, h1940, h1941, h1942, h1944, h1945, h1946, h1947⟩ := e2_Lw_law_1903
  obtain ⟨h1950, h1952, h1953, h1956, h1958, h1961, h1962, h1963, h1965, h1968, h1969, h1970⟩ := e3_Lw_law_1903
  obtain ⟨h1971, h1973, h1974, h1975, h1978, h1979, h1980⟩ := e4_Lw_law_1903
  refine acP (SP_of (s_aldn (M := M_Lw_law) (pc := 1903) (k := 1) h1903)) ?_
  refine acP (SP_of (s_aldn (M := M_Lw_law) (pc := 1904) (k := 0) h1904)) ?_
  refine acP (SP_of (s_ild (M := M_Lw_law) (pc := 1905) h1905)) ?_
  refine acP (SP_of (s_iconst (M := M_Lw_law) (pc := 1907) h1907 rfl)) ?_
  refine acP (SP_of (s_iadd (M := M_Lw_law) (pc := 1908) h1908)) ?_
  refine acP (s_sld (M := M_Lw_law) (pc := 1909) h1909) ?_
  refine acP (SP_of (s_aldn (M := M_Lw_law) (pc := 1910) (k := 0) h1910)) ?_
  refine acP (SP_of (s_ild (M := M_Lw_law) (pc := 1911) h1911)) ?_
  refine acP (SP_of (s_iconst (M := M_Lw_law) (pc := 1913) h1913 rfl)) ?_
  refine acP (SP_of (s_iadd (M := M_Lw_law) (pc := 1914) h1914)) ?_
  refine acP (s_sld (M := M_Lw_law) (pc := 1915) h1915) ?_
  refine acP (SP_of (s_aldn (M := M_Lw_law) (pc := 1916) (k := 0) h1916)) ?_
  refine acP (SP_of (s_ild (M := M_Lw_law) (pc := 1917) h1917)) ?_
  refine acP (SP_of (s_iconst (M := M_Lw_law) (pc := 1919) h1919 rfl)) ?_
  refine acP (SP_of (s_iadd (M := M_Lw_law) (pc := 1920) h1920)) ?_
  refine acP (s_sld (M := M_Lw_law) (pc := 1921) h1921) ?_
  refine acP (SP_of (s_aldn (M := M_Lw_law) (pc := 1922) (k := 3) h1922)) ?_
  refine acP (SP_of (s_callW (M := M_Lw_law) (pc := 1923) (mc1 := 1) (ms1 := 34) (z_law) h1923 rfl q_Lw_hurt wd1555 wd1556)) ?_
  refine acP (SP_of (s_ist (M := M_Lw_law) (pc := 1926) h1926 (by decide))) ?_
  refine acP (SP_of (s_aldn (M := M_Lw_law) (pc := 1928) (k := 2) h1928)) ?_
  refine acP (SP_of (s_aldn (M := M_Lw_law) (pc := 1929) (k := 0) h1929)) ?_
  refine acP (SP_of (s_ild (M := M_Lw_law) (pc := 1930) h1930)) ?_
  refine acP (SP_of (s_iconst (M := M_Lw_law) (pc := 1932) h1932 rfl)) ?_
  refine acP (SP_of (s_iadd (M := M_Lw_law) (pc := 1933) h1933)) ?_
  refine acP (s_sld (M := M_Lw_law) (pc := 1934) h1934) ?_
  refine acP (SP_of (s_aldn (M := M_Lw_law) (pc := 1935) (k := 0) h1935)) ?_
  refine acP (SP_of (s_ild (M := M_Lw_law) (pc := 1936) h1936)) ?_
  refine acP (SP_of (s_iconst (M := M_Lw_law) (pc := 1938) h1938 rfl)) ?_
  refine acP (SP_of (s_iadd (M := M_Lw_law) (pc := 1939) h1939)) ?_
  refine acP (s_sld (M := M_Lw_law) (pc := 1940) h1940) ?_
  refine acP (SP_of (s_aldn (M := M_Lw_law) (pc := 1941) (k := 0) h1941)) ?_
  refine acP (SP_of (s_ild (M := M_Lw_law) (pc := 1942) h1942)) ?_
  refine acP (SP_of (s_iconst (M := M_Lw_law) (pc := 1944) h1944 rfl)) ?_
  refine acP (SP_of (s_iadd (M := M_Lw_law) (pc := 1945) h1945)) ?_
  refine acP (s_sld (M := M_Lw_law) (pc := 1946) h1946) ?_
  refine acP (SP_of (s_callV (M := M_Lw_law) (pc := 1947) (z_law) h1947 q_Mm_hurt wd2257 wd2258 wd2259 rfl (T := TX8) (N := 29) rfl)) ?_
  refine acP (SP_of (s_ist (M := M_Lw_law) (pc := 1950) h1950 (by decide))) ?_
  refine acP (SP_of (s_aldn (M := M_Lw_law) (pc := 1952) (k := 2) h1952)) ?_
  refine acP (SP_of (s_callV (M := M_Lw_law) (pc := 1953) (z_law) h1953 q_Mm_thrown wd1679 wd1680 wd1681 rfl (T := TX8) (N := 29) rfl)) ?_
  refine acP (SP_of (s_ild (M := M_Lw_law) (pc := 1956) h1956)) ?_
  refine acP (SP_of (s_icmp_eq (M := M_Lw_law) (pc := 1958) h1958 (by decide))) ?_
  refine acP (SP_of (s_iconst (M := M_Lw_law) (pc := 1961) h1961 rfl)) ?_
  refine acP (SP_of (s_zret (M := M_Lw_law) (pc := 1962) h1962 rfl)) ?_
  refine acP (SP_of (s_ild (M := M_Lw_law) (pc := 1963) h1963)) ?_
  refine acP (SP_of (s_if_ne (M := M_Lw_law) (pc := 1965) h1965 (by decide))) ?_
  refine acP (SP_of (s_aldn (M := M_Lw_law) (pc := 1968) (k := 3) h1968)) ?_
  refine acP (SP_of (s_iconst (M := M_Lw_law) (pc := 1969) h1969 rfl)) ?_
  refine acP (SP_of (s_lald (M := M_Lw_law) (pc := 1970) h1970)) ?_
  refine acP (SP_of (s_ild (M := M_Lw_law) (pc := 1971) h1971)) ?_
  refine acP (SP_of (s_i2l (M := M_Lw_law) (pc := 1973) h1973)) ?_
  refine acP (SP_of (s_lc_eq (M := M_Lw_law) (pc := 1974) h1974 h1975 (by decide))) ?_
  refine acP (SP_of (s_iconst (M := M_Lw_law) (pc := 1978) h1978 rfl)) ?_
  refine acP (SP_of (s_zret (M := M_Lw_law) (pc := 1979) h1979 rfl)) ?_
  refine acP (SP_of (s_goto (M := M_Lw_law) (pc := 1980) h1980 (by decide))) ?_
  exact acP_nil
theorem e0_Lw_law_1983 : decode code 1983 = .ok (.aload_n 1, 1) ∧ decode code 1984 = .ok (.aload_n 0, 1) ∧ decode code 1985 = .ok (.iload 4, 2) ∧ decode code 1987 = .ok (.iconst 1, 1) ∧ decode code 1988 = .ok (.iadd, 1) ∧ decode code 1989 = .ok (.iaload, 1) ∧ decode code 1990 = .ok (.aload_n 0, 1) ∧ decode code 1991 = .ok (.iload 4, 2) ∧ decode code 1993 = .ok (.iconst 2, 1) ∧ decode code 1994 = .ok (.iadd, 1) ∧ decode code 1995 = .ok (.iaload, 1) ∧ decode code 1996 = .ok (.aload_n 0, 1) := by decide +kernel
theorem e1_Lw_law_1983 : decode code 1997 = .ok (.iload 4, 2) ∧ decode code 1999 = .ok (.iconst 3, 1) ∧ decode code 2000 = .ok (.iadd, 1) ∧ decode code 2001 = .ok (.iaload, 1) ∧ decode code 2002 = .ok (.aload_n 0, 1) ∧ decode code 2003 = .ok (.iload 4, 2) ∧ decode code 2005 = .ok (.iconst 4, 1) ∧ decode code 2006 = .ok (.iadd, 1) ∧ decode code 2007 = .ok (.iaload, 1) ∧ decode code 2008 = .ok (.aload_n 3, 1) ∧ decode code 2009 = .ok (.invokestatic 254, 3) ∧ decode code 2012 = .ok (.istore 5, 2) := by decide +kernel
theorem e2_Lw_law_1983 : decode code 2014 = .ok (.aload_n 2, 1) ∧ decode code 2015 = .ok (.aload_n 0, 1) ∧ decode code 2016 = .ok (.iload 4, 2) ∧ decode code 2018 = .ok (.iconst 1, 1) ∧ decode code 2019 = .ok (.iadd, 1) ∧ decode code 2020 = .ok (.iaload, 1) ∧ decode code 2021 = .ok (.aload_n 0, 1) ∧ decode code 2022 = .ok (.iload 4, 2) ∧ decode code 2024 = .ok (.iconst 2, 1) ∧ decode code 2025 = .ok (.iadd, 1) ∧ decode code 2026 = .ok (.iaload, 1) ∧ decode code 2027 = .ok (.aload_n 0, 1) := by decide +kernel
theorem e3_Lw_law_1983 : decode code 2028 = .ok (.iload 4, 2) ∧ decode code 2030 = .ok (.iconst 3, 1) ∧ decode code 2031 = .ok (.iadd, 1) ∧ decode code 2032 = .ok (.iaload, 1) ∧ decode code 2033 = .ok (.aload_n 0, 1) ∧ decode code 2034 = .ok (.iload 4, 2) ∧ decode code 2036 = .ok (.iconst 4, 1) ∧ decode code 2037 = .ok (.iadd, 1) ∧ decode code 2038 = .ok (.iaload, 1) ∧ decode code 2039 = .ok (.invokevirtual 257, 3) ∧ decode code 2042 = .ok (.istore 6, 2) ∧ decode code 2044 = .ok (.aload_n 2, 1) := by decide +kernel
theorem e4_Lw_law_1983 : decode code 2045 = .ok (.invokevirtual 158, 3) ∧ decode code 2048 = .ok (.iload 5, 2) ∧ decode code 2050 = .ok (.if_icmp .eq 5, 3) ∧ decode code 2053 = .ok (.iconst 0, 1) ∧ decode code 2054 = .ok (.ireturn, 1) ∧ decode code 2055 = .ok (.iload 5, 2) ∧ decode code 2057 = .ok (.ifCond .ne 15, 3) ∧ decode code 2060 = .ok (.aload_n 3, 1) ∧ decode code 2061 = .ok (.iconst 0, 1) ∧ decode code 2062 = .ok (.laload, 1) ∧ decode code 2063 = .ok (.iload 6, 2) ∧ decode code 2065 = .ok (.i2l, 1) := by decide +kernel
theorem e5_Lw_law_1983 : decode code 2066 = .ok (.lcmp, 1) ∧ decode code 2067 = .ok (.ifCond .eq 5, 3) ∧ decode code 2070 = .ok (.iconst 0, 1) ∧ decode code 2071 = .ok (.ireturn, 1) ∧ decode code 2072 = .ok (.goto 558, 3) := by decide +kernel
def T_Lw_law_1983 (L : Nat) (xs : Nat → Int32) : TT := [(1983, o_ald 1 1984), (1984, o_ald 0 1985), (1985, o_ild 4 1987), (1987, o_push (.int (iI (1))) 1988), (1988, o_iadd 1989), (1989, o_sld L xs 1990), (1990, o_ald 0 1991), (1991, o_ild 4 1993), (1993, o_push (.int (iI (2))) 1994), (1994, o_iadd 1995), (1995, o_sld L xs 1996), (1996, o_ald 0 1997), (1997, o_ild 4 1999), (1999, o_push (.int (iI (3))) 2000), (2000, o_iadd 2001), (2001, o_sld L xs 2002), (2002, o_ald 0 2003), (2003, o_ild 4 2005), (2005, o_push (.int (iI (4))) 2006), (2006, o_iadd 2007), (2007, o_sld L xs 2008), (2008, o_ald 3 2009), (2009, o_callW M_Lw_operate 6 1 34 2012), (2012, o_ist 5 2014), (2014, o_ald 2 2015), (2015, o_ald 0 2016), (2016, o_ild 4 2018), (2018, o_push (.int (iI (1))) 2019), (2019, o_iadd 2020), (2020, o_sld L xs 2021), (2021, o_ald 0 2022), (2022, o_ild 4 2024), (2024, o_push (.int (iI (2))) 2025), (2025, o_iadd 2026), (2026, o_sld L xs 2027), (2027, o_ald 0 2028), (2028, o_ild 4 2030), (2030, o_push (.int (iI (3))) 2031), (2031, o_iadd 2032), (2032, o_sld L xs 2033), (2033, o_ald 0 2034), (2034, o_ild 4 2036), (2036, o_push (.int (iI (4))) 2037), (2037, o_iadd 2038), (2038, o_sld L xs 2039), (2039, o_callV M_Mm_operate 8 5 2042), (2042, o_ist 6 2044), (2044, o_ald 2 2045), (2045, o_callV M_Mm_thrown 8 1 2048), (2048, o_ild 5 2050), (2050, o_icmp_eq 2055 2053), (2053, o_push (.int (iI (0))) 2054), (2054, o_zret), (2055, o_ild 5 2057), (2057, o_if_ne 2072 2060), (2060, o_ald 3 2061), (2061, o_push (.int (iI (0))) 2062), (2062, o_lald 2063), (2063, o_ild 6 2065), (2065, o_i2l 2066), (2066, o_lc_eq 2072 2070), (2070, o_push (.int (iI (0))) 2071), (2071, o_zret), (2072, o_goto 2630)]
theorem k_Lw_law_1983 (L : Nat) (xs : Nat → Int32) : ∀ x ∈ T_Lw_law_1983 L xs, SP (gS L xs) M_Lw_law x.1 x.2 := by
  obtain ⟨h1983, h1984, h1985, h1987, h1988, h1989, h1990, h1991, h1993, h1994, h1995, h1996⟩ := e0_Lw_law_1983
  obtain ⟨h1997, h1999, h2000, h2001, h2002, h2003, h2005, h2006, h2007, h2008, h2009, h2012⟩ := e1_Lw_law_1983
  obtain ⟨h2014, h2015, h2016, h2018, h2019, h2020, h2021, h2022, h2024, h2025, h2026, h2027⟩ := e2_Lw_law_1983
  obtain ⟨h2028, h2030, h2031, h2032, h2033, h2034, h2036, h2037, h2038, h2039, h2042, h2044⟩ := e3_Lw_law_1983
  obtain ⟨h2045, h2048, h2050, h2053, h2054, h2055, h2057, h2060, h2061, h2062, h2063, h2065⟩ := e4_Lw_law_1983
  obtain ⟨h2066, h2067, h2070, h2071, h2072⟩ := e5_Lw_law_1983
  refine acP (SP_of (s_aldn (M := M_Lw_law) (pc := 1983) (k := 1) h1983)) ?_
  refine acP (SP_of (s_aldn (M := M_Lw_law) (pc := 1984) (k := 0) h1984)) ?_
  refine acP (SP_of (s_ild (M := M_Lw_law) (pc := 1985) h1985)) ?_
  refine acP (SP_of (s_iconst (M := M_Lw_law) (pc := 1987) h1987 rfl)) ?_
  refine acP (SP_of (s_iadd (M := M_Lw_law) (pc := 1988) h1988)) ?_
  refine acP (s_sld (M := M_Lw_law) (pc := 1989) h1989) ?_
  refine acP (SP_of (s_aldn (M := M_Lw_law) (pc := 1990) (k := 0) h1990)) ?_
  refine acP (SP_of (s_ild (M := M_Lw_law) (pc := 1991) h1991)) ?_
  refine acP (SP_of (s_iconst (M := M_Lw_law) (pc := 1993) h1993 rfl)) ?_
  refine acP (SP_of (s_iadd (M := M_Lw_law) (pc := 1994) h1994)) ?_
  refine acP (s_sld (M := M_Lw_law) (pc := 1995) h1995) ?_
  refine acP (SP_of (s_aldn (M := M_Lw_law) (pc := 1996) (k := 0) h1996)) ?_
  refine acP (SP_of (s_ild (M := M_Lw_law) (pc := 1997) h1997)) ?_
  refine acP (SP_of (s_iconst (M := M_Lw_law) (pc := 1999) h1999 rfl)) ?_
  refine acP (SP_of (s_iadd (M := M_Lw_law) (pc := 2000) h2000)) ?_
  refine acP (s_sld (M := M_Lw_law) (pc := 2001) h2001) ?_
  refine acP (SP_of (s_aldn (M := M_Lw_law) (pc := 2002) (k := 0) h2002)) ?_
  refine acP (SP_of (s_ild (M := M_Lw_law) (pc := 2003) h2003)) ?_
  refine acP (SP_of (s_iconst (M := M_Lw_law) (pc := 2005) h2005 rfl)) ?_
  refine acP (SP_of (s_iadd (M := M_Lw_law) (pc := 2006) h2006)) ?_
  refine acP (s_sld (M := M_Lw_law) (pc := 2007) h2007) ?_
  refine acP (SP_of (s_aldn (M := M_Lw_law) (pc := 2008) (k := 3) h2008)) ?_
  refine acP (SP_of (s_callW (M := M_Lw_law) (pc := 2009) (mc1 := 1) (ms1 := 34) (z_law) h2009 rfl q_Lw_operate wd1563 wd1564)) ?_
  refine acP (SP_of (s_ist (M := M_Lw_law) (pc := 2012) h2012 (by decide))) ?_
  refine acP (SP_of (s_aldn (M := M_Lw_law) (pc := 2014) (k := 2) h2014)) ?_
  refine acP (SP_of (s_aldn (M := M_Lw_law) (pc := 2015) (k := 0) h2015)) ?_
  refine acP (SP_of (s_ild (M := M_Lw_law) (pc := 2016) h2016)) ?_
  refine acP (SP_of (s_iconst (M := M_Lw_law) (pc := 2018) h2018 rfl)) ?_
  refine acP (SP_of (s_iadd (M := M_Lw_law) (pc := 2019) h2019)) ?_
  refine acP (s_sld (M := M_Lw_law) (pc := 2020) h2020) ?_
  refine acP (SP_of (s_aldn (M := M_Lw_law) (pc := 2021) (k := 0) h2021)) ?_
  refine acP (SP_of (s_ild (M := M_Lw_law) (pc := 2022) h2022)) ?_
  refine acP (SP_of (s_iconst (M := M_Lw_law) (pc := 2024) h2024 rfl)) ?_
  refine acP (SP_of (s_iadd (M := M_Lw_law) (pc := 2025) h2025)) ?_
  refine acP (s_sld (M := M_Lw_law) (pc := 2026) h2026) ?_
  refine acP (SP_of (s_aldn (M := M_Lw_law) (pc := 2027) (k := 0) h2027)) ?_
  refine acP (SP_of (s_ild (M := M_Lw_law) (pc := 2028) h2028)) ?_
  refine acP (SP_of (s_iconst (M := M_Lw_law) (pc := 2030) h2030 rfl)) ?_
  refine acP (SP_of (s_iadd (M := M_Lw_law) (pc := 2031) h2031)) ?_
  refine acP (s_sld (M := M_Lw_law) (pc := 2032) h2032) ?_
  refine acP (SP_of (s_aldn (M := M_Lw_law) (pc := 2033) (k := 0) h2033)) ?_
  refine acP (SP_of (s_ild (M := M_Lw_law) (pc := 2034) h2034)) ?_
  refine acP (SP_of (s_iconst (M := M_Lw_law) (pc := 2036) h2036 rfl)) ?_
  refine acP (SP_of (s_iadd (M := M_Lw_law) (pc := 2037) h2037)) ?_
  refine acP (s_sld (M := M_Lw_law) (pc := 2038) h2038) ?_
  refine acP (SP_of (s_callV (M := M_Lw_law) (pc := 2039) (z_law) h2039 q_Mm_operate wd2261 wd2262 wd2263 rfl (T := TX8) (N := 29) rfl)) ?_
  refine acP (SP_of (s_ist (M := M_Lw_law) (pc := 2042) h2042 (by decide))) ?_
  refine acP (SP_of (s_aldn (M := M_Lw_law) (pc := 2044) (k := 2) h2044)) ?_
  refine acP (SP_of (s_callV (M := M_Lw_law) (pc := 2045) (z_law) h2045 q_Mm_thrown wd1679 wd1680 wd1681 rfl (T := TX8) (N := 29) rfl)) ?_
  refine acP (SP_of (s_ild (M := M_Lw_law) (pc := 2048) h2048)) ?_
  refine acP (SP_of (s_icmp_eq (M := M_Lw_law) (pc := 2050) h2050 (by decide))) ?_
  refine acP (SP_of (s_iconst (M := M_Lw_law) (pc := 2053) h2053 rfl)) ?_
  refine acP (SP_of (s_zret (M := M_Lw_law) (pc := 2054) h2054 rfl)) ?_
  refine acP (SP_of (s_ild (M := M_Lw_law) (pc := 2055) h2055)) ?_
  refine acP (SP_of (s_if_ne (M := M_Lw_law) (pc := 2057) h2057 (by decide))) ?_
  refine acP (SP_of (s_aldn (M := M_Lw_law) (pc := 2060) (k := 3) h2060)) ?_
  refine acP (SP_of (s_iconst (M := M_Lw_law) (pc := 2061) h2061 rfl)) ?_
  refine acP (SP_of (s_lald (M := M_Lw_law) (pc := 2062) h2062)) ?_
  refine acP (SP_of (s_ild (M := M_Lw_law) (pc := 2063) h2063)) ?_
  refine acP (SP_of (s_i2l (M := M_Lw_law) (pc := 2065) h2065)) ?_
  refine acP (SP_of (s_lc_eq (M := M_Lw_law) (pc := 2066) h2066 h2067 (by decide))) ?_
  refine acP (SP_of (s_iconst (M := M_Lw_law) (pc := 2070) h2070 rfl)) ?_
  refine acP (SP_of (s_zret (M := M_Lw_law) (pc := 2071) h2071 rfl)) ?_
  refine acP (SP_of (s_goto (M := M_Lw_law) (pc := 2072) h2072 (by decide))) ?_
  exact acP_nil
theorem e0_Lw_law_2075 : decode code 2075 = .ok (.aload_n 1, 1) ∧ decode code 2076 = .ok (.aload_n 0, 1) ∧ decode code 2077 = .ok (.iload 4, 2) ∧ decode code 2079 = .ok (.iconst 1, 1) ∧ decode code 2080 = .ok (.iadd, 1) ∧ decode code 2081 = .ok (.iaload, 1) ∧ decode code 2082 = .ok (.aload_n 0, 1) ∧ decode code 2083 = .ok (.iload 4, 2) ∧ decode code 2085 = .ok (.iconst 2, 1) ∧ decode code 2086 = .ok (.iadd, 1) ∧ decode code 2087 = .ok (.iaload, 1) ∧ decode code 2088 = .ok (.aload_n 3, 1) := by decide +kernel
theorem e1_Lw_law_2075 : decode code 2089 = .ok (.invokestatic 258, 3) ∧ decode code 2092 = .ok (.istore 5, 2) ∧ decode code 2094 = .ok (.aload_n 2, 1) ∧ decode code 2095 = .ok (.aload_n 0, 1) ∧ decode code 2096 = .ok (.iload 4, 2) ∧ decode code 2098 = .ok (.iconst 1, 1) ∧ decode code 2099 = .ok (.iadd, 1) ∧ decode code 2100 = .ok (.iaload, 1) ∧ decode code 2101 = .ok (.aload_n 0, 1) ∧ decode code 2102 = .ok (.iload 4, 2) ∧ decode code 2104 = .ok (.iconst 2, 1) ∧ decode code 2105 = .ok (.iadd, 1) := by decide +kernel
theorem e2_Lw_law_2075 : decode code 2106 = .ok (.iaload, 1) ∧ decode code 2107 = .ok (.invokevirtual 260, 3) ∧ decode code 2110 = .ok (.istore 6, 2) ∧ decode code 2112 = .ok (.aload_n 2, 1) ∧ decode code 2113 = .ok (.invokevirtual 158, 3) ∧ decode code 2116 = .ok (.iload 5, 2) ∧ decode code 2118 = .ok (.if_icmp .eq 5, 3) ∧ decode code 2121 = .ok (.iconst 0, 1) ∧ decode code 2122 = .ok (.ireturn, 1) ∧ decode code 2123 = .ok (.iload 5, 2) ∧ decode code 2125 = .ok (.ifCond .ne 15, 3) ∧ decode code 2128 = .ok (.aload_n 3, 1) := by decide +kernel
theorem e3_Lw_law_2075 : decode code 2129 = .ok (.iconst 0, 1) ∧ decode code 2130 = .ok (.laload, 1) ∧ decode code 2131 = .ok (.iload 6, 2) ∧ decode code 2133 = .ok (.i2l, 1) ∧ decode code 2134 = .ok (.lcmp, 1) ∧ decode code 2135 = .ok (.ifCond .eq 5, 3) ∧ decode code 2138 = .ok (.iconst 0, 1) ∧ decode code 2139 = .ok (.ireturn, 1) ∧ decode code 2140 = .ok (.goto 490, 3) := by decide +kernel
def T_Lw_law_2075 (L : Nat) (xs : Nat → Int32) : TT := [(2075, o_ald 1 2076), (2076, o_ald 0 2077), (2077, o_ild 4 2079), (2079, o_push (.int (iI (1))) 2080), (2080, o_iadd 2081), (2081, o_sld L xs 2082), (2082, o_ald 0 2083), (2083, o_ild 4 2085), (2085, o_push (.int (iI (2))) 2086), (2086, o_iadd 2087), (2087, o_sld L xs 2088), (2088, o_ald 3 2089), (2089, o_callW M_Lw_scale 4 1 34 2092), (2092, o_ist 5 2094), (2094, o_ald 2 2095), (2095, o_ald 0 2096), (2096, o_ild 4 2098), (2098, o_push (.int (iI (1))) 2099), (2099, o_iadd 2100), (2100, o_sld L xs 2101), (2101, o_ald 0 2102), (2102, o_ild 4 2104), (2104, o_push (.int (iI (2))) 2105), (2105, o_iadd 2106), (2106, o_sld L xs 2107), (2107, o_callV M_Mm_scale 8 3 2110), (2110, o_ist 6 2112), (2112, o_ald 2 2113), (2113, o_callV M_Mm_thrown 8 1 2116), (2116, o_ild 5 2118), (2118, o_icmp_eq 2123 2121), (2121, o_push (.int (iI (0))) 2122), (2122, o_zret), (2123, o_ild 5 2125), (2125, o_if_ne 2140 2128), (2128, o_ald 3 2129), (2129, o_push (.int (iI (0))) 2130), (2130, o_lald 2131), (2131, o_ild 6 2133), (2133, o_i2l 2134), (2134, o_lc_eq 2140 2138), (2138, o_push (.int (iI (0))) 2139), (2139, o_zret), (2140, o_goto 2630)]
theorem k_Lw_law_2075 (L : Nat) (xs : Nat → Int32) : ∀ x ∈ T_Lw_law_2075 L xs, SP (gS L xs) M_Lw_law x.1 x.2 := by
  obtain ⟨h2075, h2076, h2077, h2079, h2080, h2081, h2082, h2083, h2085, h2086, h2087, h2088⟩ := e0_Lw_law_2075
  obtain ⟨h2089, h2092, h2094, h2095, h2096, h2098, h2099, h2100, h2101, h2102, h2104, h2105⟩ := e1_Lw_law_2075
  obtain ⟨h2106, h2107, h2110, h2112, h2113, h2116, h2118, h2121, h2122, h2123, h2125, h2128⟩ := e2_Lw_law_2075
  obtain ⟨h2129, h2130, h2131, h2133, h2134, h2135, h2138, h2139, h2140⟩ := e3_Lw_law_2075
  refine acP (SP_of (s_aldn (M := M_Lw_law) (pc := 2075) (k := 1) h2075)) ?_
  refine acP (SP_of (s_aldn (M := M_Lw_law) (pc := 2076) (k := 0) h2076)) ?_
  refine acP (SP_of (s_ild (M := M_Lw_law) (pc := 2077) h2077)) ?_
  refine acP (SP_of (s_iconst (M := M_Lw_law) (pc := 2079) h2079 rfl)) ?_
  refine acP (SP_of (s_iadd (M := M_Lw_law) (pc := 2080) h2080)) ?_
  refine acP (s_sld (M := M_Lw_law) (pc := 2081) h2081) ?_
  refine acP (SP_of (s_aldn (M := M_Lw_law) (pc := 2082) (k := 0) h2082)) ?_
  refine acP (SP_of (s_ild (M := M_Lw_law) (pc := 2083) h2083)) ?_
  refine acP (SP_of (s_iconst (M := M_Lw_law) (pc := 2085) h2085 rfl)) ?_
  refine acP (SP_of (s_iadd (M := M_Lw_law) (pc := 2086) h2086)) ?_
  refine acP (s_sld (M := M_Lw_law) (pc := 2087) h2087) ?_
  refine acP (SP_of (s_aldn (M := M_Lw_law) (pc := 2088) (k := 3) h2088)) ?_
  refine acP (SP_of (s_callW (M := M_Lw_law) (pc := 2089) (mc1 := 1) (ms1 := 34) (z_law) h2089 rfl q_Lw_scale wd1575 wd1576)) ?_
  refine acP (SP_of (s_ist (M := M_Lw_law) (pc := 2092) h2092 (by decide))) ?_
  refine acP (SP_of (s_aldn (M := M_Lw_law) (pc := 2094) (k := 2) h2094)) ?_
  refine acP (SP_of (s_aldn (M := M_Lw_law) (pc := 2095) (k := 0) h2095)) ?_
  refine acP (SP_of (s_ild (M := M_Lw_law) (pc := 2096) h2096)) ?_
  refine acP (SP_of (s_iconst (M := M_Lw_law) (pc := 2098) h2098 rfl)) ?_
  refine acP (SP_of (s_iadd (M := M_Lw_law) (pc := 2099) h2099)) ?_
  refine acP (s_sld (M := M_Lw_law) (pc := 2100) h2100) ?_
  refine acP (SP_of (s_aldn (M := M_Lw_law) (pc := 2101) (k := 0) h2101)) ?_
  refine acP (SP_of (s_ild (M := M_Lw_law) (pc := 2102) h2102)) ?_
  refine acP (SP_of (s_iconst (M := M_Lw_law) (pc := 2104) h2104 rfl)) ?_
  refine acP (SP_of (s_iadd (M := M_Lw_law) (pc := 2105) h2105)) ?_
  refine acP (s_sld (M := M_Lw_law) (pc := 2106) h2106) ?_
  refine acP (SP_of (s_callV (M := M_Lw_law) (pc := 2107) (z_law) h2107 q_Mm_scale wd2265 wd2266 wd2267 rfl (T := TX8) (N := 29) rfl)) ?_
  refine acP (SP_of (s_ist (M := M_Lw_law) (pc := 2110) h2110 (by decide))) ?_
  refine acP (SP_of (s_aldn (M := M_Lw_law) (pc := 2112) (k := 2) h2112)) ?_
  refine acP (SP_of (s_callV (M := M_Lw_law) (pc := 2113) (z_law) h2113 q_Mm_thrown wd1679 wd1680 wd1681 rfl (T := TX8) (N := 29) rfl)) ?_
  refine acP (SP_of (s_ild (M := M_Lw_law) (pc := 2116) h2116)) ?_
  refine acP (SP_of (s_icmp_eq (M := M_Lw_law) (pc := 2118) h2118 (by decide))) ?_
  refine acP (SP_of (s_iconst (M := M_Lw_law) (pc := 2121) h2121 rfl)) ?_
  refine acP (SP_of (s_zret (M := M_Lw_law) (pc := 2122) h2122 rfl)) ?_
  refine acP (SP_of (s_ild (M := M_Lw_law) (pc := 2123) h2123)) ?_
  refine acP (SP_of (s_if_ne (M := M_Lw_law) (pc := 2125) h2125 (by decide))) ?_
  refine acP (SP_of (s_aldn (M := M_Lw_law) (pc := 2128) (k := 3) h2128)) ?_
  refine acP (SP_of (s_iconst (M := M_Lw_law) (pc := 2129) h2129 rfl)) ?_
  refine acP (SP_of (s_lald (M := M_Lw_law) (pc := 2130) h2130)) ?_
  refine acP (SP_of (s_ild (M := M_Lw_law) (pc := 2131) h2131)) ?_
  refine acP (SP_of (s_i2l (M := M_Lw_law) (pc := 2133) h2133)) ?_
  refine acP (SP_of (s_lc_eq (M := M_Lw_law) (pc := 2134) h2134 h2135 (by decide))) ?_
  refine acP (SP_of (s_iconst (M := M_Lw_law) (pc := 2138) h2138 rfl)) ?_
  refine acP (SP_of (s_zret (M := M_Lw_law) (pc := 2139) h2139 rfl)) ?_
  refine acP (SP_of (s_goto (M := M_Lw_law) (pc := 2140) h2140 (by decide))) ?_
  exact acP_nil
theorem e0_Lw_law_2143 : decode code 2143 = .ok (.aload_n 1, 1) ∧ decode code 2144 = .ok (.aload_n 0, 1) ∧ decode code 2145 = .ok (.iload 4, 2) ∧ decode code 2147 = .ok (.iconst 1, 1) ∧ decode code 2148 = .ok (.iadd, 1) ∧ decode code 2149 = .ok (.iaload, 1) ∧ decode code 2150 = .ok (.aload_n 3, 1) ∧ decode code 2151 = .ok (.invokestatic 261, 3) ∧ decode code 2154 = .ok (.istore 5, 2) ∧ decode code 2156 = .ok (.aload_n 2, 1) ∧ decode code 2157 = .ok (.aload_n 0, 1) ∧ decode code 2158 = .ok (.iload 4, 2) := by decide +kernel
theorem e1_Lw_law_2143 : decode code 2160 = .ok (.iconst 1, 1) ∧ decode code 2161 = .ok (.iadd, 1) ∧ decode code 2162 = .ok (.iaload, 1) ∧ decode code 2163 = .ok (.invokevirtual 263, 3) ∧ decode code 2166 = .ok (.istore 6, 2) ∧ decode code 2168 = .ok (.aload_n 2, 1) ∧ decode code 2169 = .ok (.invokevirtual 158, 3) ∧ decode code 2172 = .ok (.iload 5, 2) ∧ decode code 2174 = .ok (.if_icmp .eq 5, 3) ∧ decode code 2177 = .ok (.iconst 0, 1) ∧ decode code 2178 = .ok (.ireturn, 1) ∧ decode code 2179 = .ok (.iload 5, 2) := by decide +kernel
theorem e2_Lw_law_2143 : decode code 2181 = .ok (.ifCond .ne 15, 3) ∧ decode code 2184 = .ok (.aload_n 3, 1) ∧ decode code 2185 = .ok (.iconst 0, 1) ∧ decode code 2186 = .ok (.laload, 1) ∧ decode code 2187 = .ok (.iload 6, 2) ∧ decode code 2189 = .ok (.i2l, 1) ∧ decode code 2190 = .ok (.lcmp, 1) ∧ decode code 2191 = .ok (.ifCond .eq 5, 3) ∧ decode code 2194 = .ok (.iconst 0, 1) ∧ decode code 2195 = .ok (.ireturn, 1) ∧ decode code 2196 = .ok (.goto 434, 3) := by decide +kernel
def T_Lw_law_2143 (L : Nat) (xs : Nat → Int32) : TT := [(2143, o_ald 1 2144), (2144, o_ald 0 2145), (2145, o_ild 4 2147), (2147, o_push (.int (iI (1))) 2148), (2148, o_iadd 2149), (2149, o_sld L xs 2150), (2150, o_ald 3 2151), (2151, o_callW M_Lw_mend 3 1 34 2154), (2154, o_ist 5 2156), (2156, o_ald 2 2157), (2157, o_ald 0 2158), (2158, o_ild 4 2160), (2160, o_push (.int (iI (1))) 2161), (2161, o_iadd 2162), (2162, o_sld L xs 2163), (2163, o_callV M_Mm_mend 8 2 2166), (2166, o_ist 6 2168), (2168, o_ald 2 2169), (2169, o_callV M_Mm_thrown 8 1 2172), (2172, o_ild 5 2174), (2174, o_icmp_eq 2179 2177), (2177, o_push (.int (iI (0))) 2178), (2178, o_zret), (2179, o_ild 5 2181), (2181, o_if_ne 2196 2184), (2184, o_ald 3 2185), (2185, o_push (.int (iI (0))) 2186), (2186, o_lald 2187), (2187, o_ild 6 2189), (2189, o_i2l 2190), (2190, o_lc_eq 2196 2194), (2194, o_push (.int (iI (0))) 2195), (2195, o_zret), (2196, o_goto 2630)]
theorem k_Lw_law_2143 (L : Nat) (xs : Nat → Int32) : ∀ x ∈ T_Lw_law_2143 L xs, SP (gS L xs) M_Lw_law x.1 x.2 := by
  obtain ⟨h2143, h2144, h2145, h2147, h2148, h2149, h2150, h2151, h2154, h2156, h2157, h2158⟩ := e0_Lw_law_2143
  obtain ⟨h2160, h2161, h2162, h2163, h2166, h2168, h2169, h2172, h2174, h2177, h2178, h2179⟩ := e1_Lw_law_2143
  obtain ⟨h2181, h2184, h2185, h2186, h2187, h2189, h2190, h2191, h2194, h2195, h2196⟩ := e2_Lw_law_2143
  refine acP (SP_of (s_aldn (M := M_Lw_law) (pc := 2143) (k := 1) h2143)) ?_
  refine acP (SP_of (s_aldn (M := M_Lw_law) (pc := 2144) (k := 0) h2144)) ?_
  refine acP (SP_of (s_ild (M := M_Lw_law) (pc := 2145) h2145)) ?_
  refine acP (SP_of (s_iconst (M := M_Lw_law) (pc := 2147) h2147 rfl)) ?_
  refine acP (SP_of (s_iadd (M := M_Lw_law) (pc := 2148) h2148)) ?_
  refine acP (s_sld (M := M_Lw_law) (pc := 2149) h2149) ?_
  refine acP (SP_of (s_aldn (M := M_Lw_law) (pc := 2150) (k := 3) h2150)) ?_
  refine acP (SP_of (s_callW (M := M_Lw_law) (pc := 2151) (mc1 := 1) (ms1 := 34) (z_law) h2151 rfl q_Lw_mend wd1583 wd1584)) ?_
  refine acP (SP_of (s_ist (M := M_Lw_law) (pc := 2154) h2154 (by decide))) ?_
  refine acP (SP_of (s_aldn (M := M_Lw_law) (pc := 2156) (k := 2) h2156)) ?_
  refine acP (SP_of (s_aldn (M := M_Lw_law) (pc := 2157) (k := 0) h2157)) ?_
  refine acP (SP_of (s_ild (M := M_Lw_law) (pc := 2158) h2158)) ?_
  refine acP (SP_of (s_iconst (M := M_Lw_law) (pc := 2160) h2160 rfl)) ?_
  refine acP (SP_of (s_iadd (M := M_Lw_law) (pc := 2161) h2161)) ?_
  refine acP (s_sld (M := M_Lw_law) (pc := 2162) h2162) ?_
  refine acP (SP_of (s_callV (M := M_Lw_law) (pc := 2163) (z_law) h2163 q_Mm_mend wd2269 wd2270 wd2271 rfl (T := TX8) (N := 29) rfl)) ?_
  refine acP (SP_of (s_ist (M := M_Lw_law) (pc := 2166) h2166 (by decide))) ?_
  refine acP (SP_of (s_aldn (M := M_Lw_law) (pc := 2168) (k := 2) h2168)) ?_
  refine acP (SP_of (s_callV (M := M_Lw_law) (pc := 2169) (z_law) h2169 q_Mm_thrown wd1679 wd1680 wd1681 rfl (T := TX8) (N := 29) rfl)) ?_
  refine acP (SP_of (s_ild (M := M_Lw_law) (pc := 2172) h2172)) ?_
  refine acP (SP_of (s_icmp_eq (M := M_Lw_law) (pc := 2174) h2174 (by decide))) ?_
  refine acP (SP_of (s_iconst (M := M_Lw_law) (pc := 2177) h2177 rfl)) ?_
  refine acP (SP_of (s_zret (M := M_Lw_law) (pc := 2178) h2178 rfl)) ?_
  refine acP (SP_of (s_ild (M := M_Lw_law) (pc := 2179) h2179)) ?_
  refine acP (SP_of (s_if_ne (M := M_Lw_law) (pc := 2181) h2181 (by decide))) ?_
  refine acP (SP_of (s_aldn (M := M_Lw_law) (pc := 2184) (k := 3) h2184)) ?_
  refine acP (SP_of (s_iconst (M := M_Lw_law) (pc := 2185) h2185 rfl)) ?_
  refine acP (SP_of (s_lald (M := M_Lw_law) (pc := 2186) h2186)) ?_
  refine acP (SP_of (s_ild (M := M_Lw_law) (pc := 2187) h2187)) ?_
  refine acP (SP_of (s_i2l (M := M_Lw_law) (pc := 2189) h2189)) ?_
  refine acP (SP_of (s_lc_eq (M := M_Lw_law) (pc := 2190) h2190 h2191 (by decide))) ?_
  refine acP (SP_of (s_iconst (M := M_Lw_law) (pc := 2194) h2194 rfl)) ?_
  refine acP (SP_of (s_zret (M := M_Lw_law) (pc := 2195) h2195 rfl)) ?_
  refine acP (SP_of (s_goto (M := M_Lw_law) (pc := 2196) h2196 (by decide))) ?_
  exact acP_nil
theorem e0_Lw_law_2199 : decode code 2199 = .ok (.aload_n 1, 1) ∧ decode code 2200 = .ok (.aload_n 0, 1) ∧ decode code 2201 = .ok (.iload 4, 2) ∧ decode code 2203 = .ok (.iconst 1, 1) ∧ decode code 2204 = .ok (.iadd, 1) ∧ decode code 2205 = .ok (.iaload, 1) ∧ decode code 2206 = .ok (.aload_n 0, 1) ∧ decode code 2207 = .ok (.iload 4, 2) ∧ decode code 2209 = .ok (.iconst 2, 1) ∧ decode code 2210 = .ok (.iadd, 1) ∧ decode code 2211 = .ok (.iaload, 1) ∧ decode code 2212 = .ok (.aload_n 3, 1) := by decide +kernel
theorem e1_Lw_law_2199 : decode code 2213 = .ok (.invokestatic 264, 3) ∧ decode code 2216 = .ok (.istore 5, 2) ∧ decode code 2218 = .ok (.aload_n 2, 1) ∧ decode code 2219 = .ok (.aload_n 0, 1) ∧ decode code 2220 = .ok (.iload 4, 2) ∧ decode code 2222 = .ok (.iconst 1, 1) ∧ decode code 2223 = .ok (.iadd, 1) ∧ decode code 2224 = .ok (.iaload, 1) ∧ decode code 2225 = .ok (.aload_n 0, 1) ∧ decode code 2226 = .ok (.iload 4, 2) ∧ decode code 2228 = .ok (.iconst 2, 1) ∧ decode code 2229 = .ok (.iadd, 1) := by decide +kernel
theorem e2_Lw_law_2199 : decode code 2230 = .ok (.iaload, 1) ∧ decode code 2231 = .ok (.invokevirtual 266, 3) ∧ decode code 2234 = .ok (.istore 6, 2) ∧ decode code 2236 = .ok (.aload_n 2, 1) ∧ decode code 2237 = .ok (.invokevirtual 158, 3) ∧ decode code 2240 = .ok (.iload 5, 2) ∧ decode code 2242 = .ok (.if_icmp .eq 5, 3) ∧ decode code 2245 = .ok (.iconst 0, 1) ∧ decode code 2246 = .ok (.ireturn, 1) ∧ decode code 2247 = .ok (.iload 5, 2) ∧ decode code 2249 = .ok (.ifCond .ne 15, 3) ∧ decode code 2252 = .ok (.aload_n 3, 1) := by decide +kernel
theorem e3_Lw_law_2199 : decode code 2253 = .ok (.iconst 0, 1) ∧ decode code 2254 = .ok (.laload, 1) ∧ decode code 2255 = .ok (.iload 6, 2) ∧ decode code 2257 = .ok (.i2l, 1) ∧ decode code 2258 = .ok (.lcmp, 1) ∧ decode code 2259 = .ok (.ifCond .eq 5, 3) ∧ decode code 2262 = .ok (.iconst 0, 1) ∧ decode code 2263 = .ok (.ireturn, 1) ∧ decode code 2264 = .ok (.goto 366, 3) := by decide +kernel
def T_Lw_law_2199 (L : Nat) (xs : Nat → Int32) : TT := [(2199, o_ald 1 2200), (2200, o_ald 0 2201), (2201, o_ild 4 2203), (2203, o_push (.int (iI (1))) 2204), (2204, o_iadd 2205), (2205, o_sld L xs 2206), (2206, o_ald 0 2207), (2207, o_ild 4 2209), (2209, o_push (.int (iI (2))) 2210), (2210, o_iadd 2211), (2211, o_sld L xs 2212), (2212, o_ald 3 2213), (2213, o_callW M_Lw_swap 4 1 34 2216), (2216, o_ist 5 2218), (2218, o_ald 2 2219), (2219, o_ald 0 2220), (2220, o_ild 4 2222), (2222, o_push (.int (iI (1))) 2223), (2223, o_iadd 2224), (2224, o_sld L xs 2225), (2225, o_ald 0 2226), (2226, o_ild 4 2228), (2228, o_push (.int (iI (2))) 2229), (2229, o_iadd 2230), (2230, o_sld L xs 2231), (2231, o_callV M_Mm_swap 8 3 2234), (2234, o_ist 6 2236), (2236, o_ald 2 2237), (2237, o_callV M_Mm_thrown 8 1 2240), (2240, o_ild 5 2242), (2242, o_icmp_eq 2247 2245), (2245, o_push (.int (iI (0))) 2246), (2246, o_zret), (2247, o_ild 5 2249), (2249, o_if_ne 2264 2252), (2252, o_ald 3 2253), (2253, o_push (.int (iI (0))) 2254), (2254, o_lald 2255), (2255, o_ild 6 2257), (2257, o_i2l 2258), (2258, o_lc_eq 2264 2262), (2262, o_push (.int (iI (0))) 2263), (2263, o_zret), (2264, o_goto 2630)]
theorem k_Lw_law_2199 (L : Nat) (xs : Nat → Int32) : ∀ x ∈ T_Lw_law_2199 L xs, SP (gS L xs) M_Lw_law x.1 x.2 := by
  obtain ⟨h2199, h2200, h2201, h2203, h2204, h2205, h2206, h2207, h2209, h2210, h2211, h2212⟩ := e0_Lw_law_2199
  obtain ⟨h2213, h2216, h2218, h2219, h2220, h2222, h2223, h2224, h2225, h2226, h2228, h2229⟩ := e1_Lw_law_2199
  obtain ⟨h2230, h2231, h2234, h2236, h2237, h2240, h2242, h2245, h2246, h2247, h2249, h2252⟩ := e2_Lw_law_2199
  obtain ⟨h2253, h2254, h2255, h2257, h2258, h2259, h2262, h2263, h2264⟩ := e3_Lw_law_2199
  refine acP (SP_of (s_aldn (M := M_Lw_law) (pc := 2199) (k := 1) h2199)) ?_
  refine acP (SP_of (s_aldn (M := M_Lw_law) (pc := 2200) (k := 0) h2200)) ?_
  refine acP (SP_of (s_ild (M := M_Lw_law) (pc := 2201) h2201)) ?_
  refine acP (SP_of (s_iconst (M := M_Lw_law) (pc := 2203) h2203 rfl)) ?_
  refine acP (SP_of (s_iadd (M := M_Lw_law) (pc := 2204) h2204)) ?_
  refine acP (s_sld (M := M_Lw_law) (pc := 2205) h2205) ?_
  refine acP (SP_of (s_aldn (M := M_Lw_law) (pc := 2206) (k := 0) h2206)) ?_
  refine acP (SP_of (s_ild (M := M_Lw_law) (pc := 2207) h2207)) ?_
  refine acP (SP_of (s_iconst (M := M_Lw_law) (pc := 2209) h2209 rfl)) ?_
  refine acP (SP_of (s_iadd (M := M_Lw_law) (pc := 2210) h2210)) ?_
  refine acP (s_sld (M := M_Lw_law) (pc := 2211) h2211) ?_
  refine acP (SP_of (s_aldn (M := M_Lw_law) (pc := 2212) (k := 3) h2212)) ?_
  refine acP (SP_of (s_callW (M := M_Lw_law) (pc := 2213) (mc1 := 1) (ms1 := 34) (z_law) h2213 rfl q_Lw_swap wd1591 wd1592)) ?_
  refine acP (SP_of (s_ist (M := M_Lw_law) (pc := 2216) h2216 (by decide))) ?_
  refine acP (SP_of (s_aldn (M := M_Lw_law) (pc := 2218) (k := 2) h2218)) ?_
  refine acP (SP_of (s_aldn (M := M_Lw_law) (pc := 2219) (k := 0) h2219)) ?_
  refine acP (SP_of (s_ild (M := M_Lw_law) (pc := 2220) h2220)) ?_
  refine acP (SP_of (s_iconst (M := M_Lw_law) (pc := 2222) h2222 rfl)) ?_
  refine acP (SP_of (s_iadd (M := M_Lw_law) (pc := 2223) h2223)) ?_
  refine acP (s_sld (M := M_Lw_law) (pc := 2224) h2224) ?_
  refine acP (SP_of (s_aldn (M := M_Lw_law) (pc := 2225) (k := 0) h2225)) ?_
  refine acP (SP_of (s_ild (M := M_Lw_law) (pc := 2226) h2226)) ?_
  refine acP (SP_of (s_iconst (M := M_Lw_law) (pc := 2228) h2228 rfl)) ?_
  refine acP (SP_of (s_iadd (M := M_Lw_law) (pc := 2229) h2229)) ?_
  refine acP (s_sld (M := M_Lw_law) (pc := 2230) h2230) ?_
  refine acP (SP_of (s_callV (M := M_Lw_law) (pc := 2231) (z_law) h2231 q_Mm_swap wd2273 wd2274 wd2275 rfl (T := TX8) (N := 29) rfl)) ?_
  refine acP (SP_of (s_ist (M := M_Lw_law) (pc := 2234) h2234 (by decide))) ?_
  refine acP (SP_of (s_aldn (M := M_Lw_law) (pc := 2236) (k := 2) h2236)) ?_
  refine acP (SP_of (s_callV (M := M_Lw_law) (pc := 2237) (z_law) h2237 q_Mm_thrown wd1679 wd1680 wd1681 rfl (T := TX8) (N := 29) rfl)) ?_
  refine acP (SP_of (s_ild (M := M_Lw_law) (pc := 2240) h2240)) ?_
  refine acP (SP_of (s_icmp_eq (M := M_Lw_law) (pc := 2242) h2242 (by decide))) ?_
  refine acP (SP_of (s_iconst (M := M_Lw_law) (pc := 2245) h2245 rfl)) ?_
  refine acP (SP_of (s_zret (M := M_Lw_law) (pc := 2246) h2246 rfl)) ?_
  refine acP (SP_of (s_ild (M := M_Lw_law) (pc := 2247) h2247)) ?_
  refine acP (SP_of (s_if_ne (M := M_Lw_law) (pc := 2249) h2249 (by decide))) ?_
  refine acP (SP_of (s_aldn (M := M_Lw_law) (pc := 2252) (k := 3) h2252)) ?_
  refine acP (SP_of (s_iconst (M := M_Lw_law) (pc := 2253) h2253 rfl)) ?_
  refine acP (SP_of (s_lald (M := M_Lw_law) (pc := 2254) h2254)) ?_
  refine acP (SP_of (s_ild (M := M_Lw_law) (pc := 2255) h2255)) ?_
  refine acP (SP_of (s_i2l (M := M_Lw_law) (pc := 2257) h2257)) ?_
  refine acP (SP_of (s_lc_eq (M := M_Lw_law) (pc := 2258) h2258 h2259 (by decide))) ?_
  refine acP (SP_of (s_iconst (M := M_Lw_law) (pc := 2262) h2262 rfl)) ?_
  refine acP (SP_of (s_zret (M := M_Lw_law) (pc := 2263) h2263 rfl)) ?_
  refine acP (SP_of (s_goto (M := M_Lw_law) (pc := 2264) h2264 (by decide))) ?_
  exact acP_nil
theorem e0_Lw_law_2267 : decode code 2267 = .ok (.aload_n 1, 1) ∧ decode code 2268 = .ok (.aload_n 0, 1) ∧ decode code 2269 = .ok (.iload 4, 2) ∧ decode code 2271 = .ok (.iconst 1, 1) ∧ decode code 2272 = .ok (.iadd, 1) ∧ decode code 2273 = .ok (.iaload, 1) ∧ decode code 2274 = .ok (.aload_n 3, 1) ∧ decode code 2275 = .ok (.invokestatic 267, 3) ∧ decode code 2278 = .ok (.istore 5, 2) ∧ decode code 2280 = .ok (.aload_n 2, 1) ∧ decode code 2281 = .ok (.aload_n 0, 1) ∧ decode code 2282 = .ok (.iload 4, 2) := by decide +kernel
theorem e1_Lw_law_2267 : decode code 2284 = .ok (.iconst 1, 1) ∧ decode code 2285 = .ok (.iadd, 1) ∧ decode code 2286 = .ok (.iaload, 1) ∧ decode code 2287 = .ok (.invokevirtual 269, 3) ∧ decode code 2290 = .ok (.istore 6, 2) ∧ decode code 2292 = .ok (.aload_n 2, 1) ∧ decode code 2293 = .ok (.invokevirtual 158, 3) ∧ decode code 2296 = .ok (.iload 5, 2) ∧ decode code 2298 = .ok (.if_icmp .eq 5, 3) ∧ decode code 2301 = .ok (.iconst 0, 1) ∧ decode code 2302 = .ok (.ireturn, 1) ∧ decode code 2303 = .ok (.iload 5, 2) := by decide +kernel
theorem e2_Lw_law_2267 : decode code 2305 = .ok (.ifCond .ne 15, 3) ∧ decode code 2308 = .ok (.aload_n 3, 1) ∧ decode code 2309 = .ok (.iconst 0, 1) ∧ decode code 2310 = .ok (.laload, 1) ∧ decode code 2311 = .ok (.iload 6, 2) ∧ decode code 2313 = .ok (.i2l, 1) ∧ decode code 2314 = .ok (.lcmp, 1) ∧ decode code 2315 = .ok (.ifCond .eq 5, 3) ∧ decode code 2318 = .ok (.iconst 0, 1) ∧ decode code 2319 = .ok (.ireturn, 1) ∧ decode code 2320 = .ok (.goto 310, 3) := by decide +kernel
def T_Lw_law_2267 (L : Nat) (xs : Nat → Int32) : TT := [(2267, o_ald 1 2268), (2268, o_ald 0 2269), (2269, o_ild 4 2271), (2271, o_push (.int (iI (1))) 2272), (2272, o_iadd 2273), (2273, o_sld L xs 2274), (2274, o_ald 3 2275), (2275, o_callW M_Lw_grow 3 1 34 2278), (2278, o_ist 5 2280), (2280, o_ald 2 2281), (2281, o_ald 0 2282), (2282, o_ild 4 2284), (2284, o_push (.int (iI (1))) 2285), (2285, o_iadd 2286), (2286, o_sld L xs 2287), (2287, o_callV M_Mm_grow 8 2 2290), (2290, o_ist 6 2292), (2292, o_ald 2 2293), (2293, o_callV M_Mm_thrown 8 1 2296), (2296, o_ild 5 2298), (2298, o_icmp_eq 2303 2301), (2301, o_push (.int (iI (0))) 2302), (2302, o_zret), (2303, o_ild 5 2305), (2305, o_if_ne 2320 2308), (2308, o_ald 3 2309), (2309, o_push (.int (iI (0))) 2310), (2310, o_lald 2311), (2311, o_ild 6 2313), (2313, o_i2l 2314), (2314, o_lc_eq 2320 2318), (2318, o_push (.int (iI (0))) 2319), (2319, o_zret), (2320, o_goto 2630)]
theorem k_Lw_law_2267 (L : Nat) (xs : Nat → Int32) : ∀ x ∈ T_Lw_law_2267 L xs, SP (gS L xs) M_Lw_law x.1 x.2 := by
  obtain ⟨h2267, h2268, h2269, h2271, h2272, h2273, h2274, h2275, h2278, h2280, h2281, h2282⟩ := e0_Lw_law_2267
  obtain ⟨h2284, h2285, h2286, h2287, h2290, h2292, h2293, h2296, h2298, h2301, h2302, h2303⟩ := e1_Lw_law_2267
  obtain ⟨h2305, h2308, h2309, h2310, h2311, h2313, h2314, h2315, h2318, h2319, h2320⟩ := e2_Lw_law_2267
  refine acP (SP_of (s_aldn (M := M_Lw_law) (pc := 2267) (k := 1) h2267)) ?_
  refine acP (SP_of (s_aldn (M := M_Lw_law) (pc := 2268) (k := 0) h2268)) ?_
  refine acP (SP_of (s_ild (M := M_Lw_law) (pc := 2269) h2269)) ?_
  refine acP (SP_of (s_iconst (M := M_Lw_law) (pc := 2271) h2271 rfl)) ?_
  refine acP (SP_of (s_iadd (M := M_Lw_law) (pc := 2272) h2272)) ?_
  refine acP (s_sld (M := M_Lw_law) (pc := 2273) h2273) ?_
  refine acP (SP_of (s_aldn (M := M_Lw_law) (pc := 2274) (k := 3) h2274)) ?_
  refine acP (SP_of (s_callW (M := M_Lw_law) (pc := 2275) (mc1 := 1) (ms1 := 34) (z_law) h2275 rfl q_Lw_grow wd1599 wd1600)) ?_
  refine acP (SP_of (s_ist (M := M_Lw_law) (pc := 2278) h2278 (by decide))) ?_
  refine acP (SP_of (s_aldn (M := M_Lw_law) (pc := 2280) (k := 2) h2280)) ?_
  refine acP (SP_of (s_aldn (M := M_Lw_law) (pc := 2281) (k := 0) h2281)) ?_
  refine acP (SP_of (s_ild (M := M_Lw_law) (pc := 2282) h2282)) ?_
  refine acP (SP_of (s_iconst (M := M_Lw_law) (pc := 2284) h2284 rfl)) ?_
  refine acP (SP_of (s_iadd (M := M_Lw_law) (pc := 2285) h2285)) ?_
  refine acP (s_sld (M := M_Lw_law) (pc := 2286) h2286) ?_
  refine acP (SP_of (s_callV (M := M_Lw_law) (pc := 2287) (z_law) h2287 q_Mm_grow wd2277 wd2278 wd2279 rfl (T := TX8) (N := 29) rfl)) ?_
  refine acP (SP_of (s_ist (M := M_Lw_law) (pc := 2290) h2290 (by decide))) ?_
  refine acP (SP_of (s_aldn (M := M_Lw_law) (pc := 2292) (k := 2) h2292)) ?_
  refine acP (SP_of (s_callV (M := M_Lw_law) (pc := 2293) (z_law) h2293 q_Mm_thrown wd1679 wd1680 wd1681 rfl (T := TX8) (N := 29) rfl)) ?_
  refine acP (SP_of (s_ild (M := M_Lw_law) (pc := 2296) h2296)) ?_
  refine acP (SP_of (s_icmp_eq (M := M_Lw_law) (pc := 2298) h2298 (by decide))) ?_
  refine acP (SP_of (s_iconst (M := M_Lw_law) (pc := 2301) h2301 rfl)) ?_
  refine acP (SP_of (s_zret (M := M_Lw_law) (pc := 2302) h2302 rfl)) ?_
  refine acP (SP_of (s_ild (M := M_Lw_law) (pc := 2303) h2303)) ?_
  refine acP (SP_of (s_if_ne (M := M_Lw_law) (pc := 2305) h2305 (by decide))) ?_
  refine acP (SP_of (s_aldn (M := M_Lw_law) (pc := 2308) (k := 3) h2308)) ?_
  refine acP (SP_of (s_iconst (M := M_Lw_law) (pc := 2309) h2309 rfl)) ?_
  refine acP (SP_of (s_lald (M := M_Lw_law) (pc := 2310) h2310)) ?_
  refine acP (SP_of (s_ild (M := M_Lw_law) (pc := 2311) h2311)) ?_
  refine acP (SP_of (s_i2l (M := M_Lw_law) (pc := 2313) h2313)) ?_
  refine acP (SP_of (s_lc_eq (M := M_Lw_law) (pc := 2314) h2314 h2315 (by decide))) ?_
  refine acP (SP_of (s_iconst (M := M_Lw_law) (pc := 2318) h2318 rfl)) ?_
  refine acP (SP_of (s_zret (M := M_Lw_law) (pc := 2319) h2319 rfl)) ?_
  refine acP (SP_of (s_goto (M := M_Lw_law) (pc := 2320) h2320 (by decide))) ?_
  exact acP_nil
theorem e0_Lw_law_2323 : decode code 2323 = .ok (.aload_n 1, 1) ∧ decode code 2324 = .ok (.aload_n 0, 1) ∧ decode code 2325 = .ok (.iload 4, 2) ∧ decode code 2327 = .ok (.iconst 1, 1) ∧ decode code 2328 = .ok (.iadd, 1) ∧ decode code 2329 = .ok (.iaload, 1) ∧ decode code 2330 = .ok (.aload_n 3, 1) ∧ decode code 2331 = .ok (.invokestatic 270, 3) ∧ decode code 2334 = .ok (.istore 5, 2) ∧ decode code 2336 = .ok (.aload_n 2, 1) ∧ decode code 2337 = .ok (.aload_n 0, 1) ∧ decode code 2338 = .ok (.iload 4, 2) := by decide +kernel
theorem e1_Lw_law_2323 : decode code 2340 = .ok (.iconst 1, 1) ∧ decode code 2341 = .ok (.iadd, 1) ∧ decode code 2342 = .ok (.iaload, 1) ∧ decode code 2343 = .ok (.invokevirtual 272, 3) ∧ decode code 2346 = .ok (.istore 6, 2) ∧ decode code 2348 = .ok (.aload_n 2, 1) ∧ decode code 2349 = .ok (.invokevirtual 158, 3) ∧ decode code 2352 = .ok (.iload 5, 2) ∧ decode code 2354 = .ok (.if_icmp .eq 5, 3) ∧ decode code 2357 = .ok (.iconst 0, 1) ∧ decode code 2358 = .ok (.ireturn, 1) ∧ decode code 2359 = .ok (.iload 5, 2) := by decide +kernel
theorem e2_Lw_law_2323 : decode code 2361 = .ok (.ifCond .ne 15, 3) ∧ decode code 2364 = .ok (.aload_n 3, 1) ∧ decode code 2365 = .ok (.iconst 0, 1) ∧ decode code 2366 = .ok (.laload, 1) ∧ decode code 2367 = .ok (.iload 6, 2) ∧ decode code 2369 = .ok (.i2l, 1) ∧ decode code 2370 = .ok (.lcmp, 1) ∧ decode code 2371 = .ok (.ifCond .eq 5, 3) ∧ decode code 2374 = .ok (.iconst 0, 1) ∧ decode code 2375 = .ok (.ireturn, 1) ∧ decode code 2376 = .ok (.goto 254, 3) := by decide +kernel
def T_Lw_law_2323 (L : Nat) (xs : Nat → Int32) : TT := [(2323, o_ald 1 2324), (2324, o_ald 0 2325), (2325, o_ild 4 2327), (2327, o_push (.int (iI (1))) 2328), (2328, o_iadd 2329), (2329, o_sld L xs 2330), (2330, o_ald 3 2331), (2331, o_callW M_Lw_drop 3 1 34 2334), (2334, o_ist 5 2336), (2336, o_ald 2 2337), (2337, o_ald 0 2338), (2338, o_ild 4 2340), (2340, o_push (.int (iI (1))) 2341), (2341, o_iadd 2342), (2342, o_sld L xs 2343), (2343, o_callV M_Mm_drop 8 2 2346), (2346, o_ist 6 2348), (2348, o_ald 2 2349), (2349, o_callV M_Mm_thrown 8 1 2352), (2352, o_ild 5 2354), (2354, o_icmp_eq 2359 2357), (2357, o_push (.int (iI (0))) 2358), (2358, o_zret), (2359, o_ild 5 2361), (2361, o_if_ne 2376 2364), (2364, o_ald 3 2365), (2365, o_push (.int (iI (0))) 2366), (2366, o_lald 2367), (2367, o_ild 6 2369), (2369, o_i2l 2370), (2370, o_lc_eq 2376 2374), (2374, o_push (.int (iI (0))) 2375), (2375, o_zret), (2376, o_goto 2630)]
theorem k_Lw_law_2323 (L : Nat) (xs : Nat → Int32) : ∀ x ∈ T_Lw_law_2323 L xs, SP (gS L xs) M_Lw_law x.1 x.2 := by
  obtain ⟨h2323, h2324, h2325, h2327, h2328, h2329, h2330, h2331, h2334, h2336, h2337, h2338⟩ := e0_Lw_law_2323
  obtain ⟨h2340, h2341, h2342, h2343, h2346, h2348, h2349, h2352, h2354, h2357, h2358, h2359⟩ := e1_Lw_law_2323
  obtain ⟨h2361, h2364, h2365, h2366, h2367, h2369, h2370, h2371, h2374, h2375, h2376⟩ := e2_Lw_law_2323
  refine acP (SP_of (s_aldn (M := M_Lw_law) (pc := 2323) (k := 1) h2323)) ?_
  refine acP (SP_of (s_aldn (M := M_Lw_law) (pc := 2324) (k := 0) h2324)) ?_
  refine acP (SP_of (s_ild (M := M_Lw_law) (pc := 2325) h2325)) ?_
  refine acP (SP_of (s_iconst (M := M_Lw_law) (pc := 2327) h2327 rfl)) ?_
  refine acP (SP_of (s_iadd (M := M_Lw_law) (pc := 2328) h2328)) ?_
  refine acP (s_sld (M := M_Lw_law) (pc := 2329) h2329) ?_
  refine acP (SP_of (s_aldn (M := M_Lw_law) (pc := 2330) (k := 3) h2330)) ?_
  refine acP (SP_of (s_callW (M := M_Lw_law) (pc := 2331) (mc1 := 1) (ms1 := 34) (z_law) h2331 rfl q_Lw_drop wd1612 wd1613)) ?_
  refine acP (SP_of (s_ist (M := M_Lw_law) (pc := 2334) h2334 (by decide))) ?_
  refine acP (SP_of (s_aldn (M := M_Lw_law) (pc := 2336) (k := 2) h2336)) ?_
  refine acP (SP_of (s_aldn (M := M_Lw_law) (pc := 2337) (k := 0) h2337)) ?_
  refine acP (SP_of (s_ild (M := M_Lw_law) (pc := 2338) h2338)) ?_
  refine acP (SP_of (s_iconst (M := M_Lw_law) (pc := 2340) h2340 rfl)) ?_
  refine acP (SP_of (s_iadd (M := M_Lw_law) (pc := 2341) h2341)) ?_
  refine acP (s_sld (M := M_Lw_law) (pc := 2342) h2342) ?_
  refine acP (SP_of (s_callV (M := M_Lw_law) (pc := 2343) (z_law) h2343 q_Mm_drop wd2293 wd2294 wd2295 rfl (T := TX8) (N := 29) rfl)) ?_
  refine acP (SP_of (s_ist (M := M_Lw_law) (pc := 2346) h2346 (by decide))) ?_
  refine acP (SP_of (s_aldn (M := M_Lw_law) (pc := 2348) (k := 2) h2348)) ?_
  refine acP (SP_of (s_callV (M := M_Lw_law) (pc := 2349) (z_law) h2349 q_Mm_thrown wd1679 wd1680 wd1681 rfl (T := TX8) (N := 29) rfl)) ?_
  refine acP (SP_of (s_ild (M := M_Lw_law) (pc := 2352) h2352)) ?_
  refine acP (SP_of (s_icmp_eq (M := M_Lw_law) (pc := 2354) h2354 (by decide))) ?_
  refine acP (SP_of (s_iconst (M := M_Lw_law) (pc := 2357) h2357 rfl)) ?_
  refine acP (SP_of (s_zret (M := M_Lw_law) (pc := 2358) h2358 rfl)) ?_
  refine acP (SP_of (s_ild (M := M_Lw_law) (pc := 2359) h2359)) ?_
  refine acP (SP_of (s_if_ne (M := M_Lw_law) (pc := 2361) h2361 (by decide))) ?_
  refine acP (SP_of (s_aldn (M := M_Lw_law) (pc := 2364) (k := 3) h2364)) ?_
  refine acP (SP_of (s_iconst (M := M_Lw_law) (pc := 2365) h2365 rfl)) ?_
  refine acP (SP_of (s_lald (M := M_Lw_law) (pc := 2366) h2366)) ?_
  refine acP (SP_of (s_ild (M := M_Lw_law) (pc := 2367) h2367)) ?_
  refine acP (SP_of (s_i2l (M := M_Lw_law) (pc := 2369) h2369)) ?_
  refine acP (SP_of (s_lc_eq (M := M_Lw_law) (pc := 2370) h2370 h2371 (by decide))) ?_
  refine acP (SP_of (s_iconst (M := M_Lw_law) (pc := 2374) h2374 rfl)) ?_
  refine acP (SP_of (s_zret (M := M_Lw_law) (pc := 2375) h2375 rfl)) ?_
  refine acP (SP_of (s_goto (M := M_Lw_law) (pc := 2376) h2376 (by decide))) ?_
  exact acP_nil
theorem e0_Lw_law_2379 : decode code 2379 = .ok (.aload_n 1, 1) ∧ decode code 2380 = .ok (.aload_n 0, 1) ∧ decode code 2381 = .ok (.iload 4, 2) ∧ decode code 2383 = .ok (.iconst 1, 1) ∧ decode code 2384 = .ok (.iadd, 1) ∧ decode code 2385 = .ok (.iaload, 1) ∧ decode code 2386 = .ok (.aload_n 3, 1) ∧ decode code 2387 = .ok (.invokestatic 273, 3) ∧ decode code 2390 = .ok (.istore 5, 2) ∧ decode code 2392 = .ok (.aload_n 2, 1) ∧ decode code 2393 = .ok (.aload_n 0, 1) ∧ decode code 2394 = .ok (.iload 4, 2) := by decide +kernel
theorem e1_Lw_law_2379 : decode code 2396 = .ok (.iconst 1, 1) ∧ decode code 2397 = .ok (.iadd, 1) ∧ decode code 2398 = .ok (.iaload, 1) ∧ decode code 2399 = .ok (.invokevirtual 275, 3) ∧ decode code 2402 = .ok (.istore 6, 2) ∧ decode code 2404 = .ok (.aload_n 2, 1) ∧ decode code 2405 = .ok (.invokevirtual 158, 3) ∧ decode code 2408 = .ok (.iload 5, 2) ∧ decode code 2410 = .ok (.if_icmp .eq 5, 3) ∧ decode code 2413 = .ok (.iconst 0, 1) ∧ decode code 2414 = .ok (.ireturn, 1) ∧ decode code 2415 = .ok (.iload 5, 2) := by decide +kernel
theorem e2_Lw_law_2379 : decode code 2417 = .ok (.ifCond .ne 15, 3) ∧ decode code 2420 = .ok (.aload_n 3, 1) ∧ decode code 2421 = .ok (.iconst 0, 1) ∧ decode code 2422 = .ok (.laload, 1) ∧ decode code 2423 = .ok (.iload 6, 2) ∧ decode code 2425 = .ok (.i2l, 1) ∧ decode code 2426 = .ok (.lcmp, 1) ∧ decode code 2427 = .ok (.ifCond .eq 5, 3) ∧ decode code 2430 = .ok (.iconst 0, 1) ∧ decode code 2431 = .ok (.ireturn, 1) ∧ decode code 2432 = .ok (.goto 198, 3) := by decide +kernel
def T_Lw_law_2379 (L : Nat) (xs : Nat → Int32) : TT := [(2379, o_ald 1 2380), (2380, o_ald 0 2381), (2381, o_ild 4 2383), (2383, o_push (.int (iI (1))) 2384), (2384, o_iadd 2385), (2385, o_sld L xs 2386), (2386, o_ald 3 2387), (2387, o_callW M_Lw_setStrict 3 1 34 2390), (2390, o_ist 5 2392), (2392, o_ald 2 2393), (2393, o_ald 0 2394), (2394, o_ild 4 2396), (2396, o_push (.int (iI (1))) 2397), (2397, o_iadd 2398), (2398, o_sld L xs 2399), (2399, o_callV M_Mm_setStrict 8 2 2402), (2402, o_ist 6 2404), (2404, o_ald 2 2405), (2405, o_callV M_Mm_thrown 8 1 2408), (2408, o_ild 5 2410), (2410, o_icmp_eq 2415 2413), (2413, o_push (.int (iI (0))) 2414), (2414, o_zret), (2415, o_ild 5 2417), (2417, o_if_ne 2432 2420), (2420, o_ald 3 2421), (2421, o_push (.int (iI (0))) 2422), (2422, o_lald 2423), (2423, o_ild 6 2425), (2425, o_i2l 2426), (2426, o_lc_eq 2432 2430), (2430, o_push (.int (iI (0))) 2431), (2431, o_zret), (2432, o_goto 2630)]
theorem k_Lw_law_2379 (L : Nat) (xs : Nat → Int32) : ∀ x ∈ T_Lw_law_2379 L xs, SP (gS L xs) M_Lw_law x.1 x.2 := by
  obtain ⟨h2379, h2380, h2381, h2383, h2384, h2385, h2386, h2387, h2390, h2392, h2393, h2394⟩ := e0_Lw_law_2379
  obtain ⟨h2396, h2397, h2398, h2399, h2402, h2404, h2405, h2408, h2410, h2413, h2414, h2415⟩ := e1_Lw_law_2379
  obtain ⟨h2417, h2420, h2421, h2422, h2423, h2425, h2426, h2427, h2430, h2431, h2432⟩ := e2_Lw_law_2379
  refine acP (SP_of (s_aldn (M := M_Lw_law) (pc := 2379) (k := 1) h2379)) ?_
  refine acP (SP_of (s_aldn (M := M_Lw_law) (pc := 2380) (k := 0) h2380)) ?_
  refine acP (SP_of (s_ild (M := M_Lw_law) (pc := 2381) h2381)) ?_
  refine acP (SP_of (s_iconst (M := M_Lw_law) (pc := 2383) h2383 rfl)) ?_
  refine acP (SP_of (s_iadd (M := M_Lw_law) (pc := 2384) h2384)) ?_
  refine acP (s_sld (M := M_Lw_law) (pc := 2385) h2385) ?_
  refine acP (SP_of (s_aldn (M := M_Lw_law) (pc := 2386) (k := 3) h2386)) ?_
  refine acP (SP_of (s_callW (M := M_Lw_law) (pc := 2387) (mc1 := 1) (ms1 := 34) (z_law) h2387 rfl q_Lw_setStrict wd1628 wd1629)) ?_
  refine acP (SP_of (s_ist (M := M_Lw_law) (pc := 2390) h2390 (by decide))) ?_
  refine acP (SP_of (s_aldn (M := M_Lw_law) (pc := 2392) (k := 2) h2392)) ?_
  refine acP (SP_of (s_aldn (M := M_Lw_law) (pc := 2393) (k := 0) h2393)) ?_
  refine acP (SP_of (s_ild (M := M_Lw_law) (pc := 2394) h2394)) ?_
  refine acP (SP_of (s_iconst (M := M_Lw_law) (pc := 2396) h2396 rfl)) ?_
  refine acP (SP_of (s_iadd (M := M_Lw_law) (pc := 2397) h2397)) ?_
  refine acP (s_sld (M := M_Lw_law) (pc := 2398) h2398) ?_
  refine acP (SP_of (s_callV (M := M_Lw_law) (pc := 2399) (z_law) h2399 q_Mm_setStrict wd2301 wd2302 wd2303 rfl (T := TX8) (N := 29) rfl)) ?_
  refine acP (SP_of (s_ist (M := M_Lw_law) (pc := 2402) h2402 (by decide))) ?_
  refine acP (SP_of (s_aldn (M := M_Lw_law) (pc := 2404) (k := 2) h2404)) ?_
  refine acP (SP_of (s_callV (M := M_Lw_law) (pc := 2405) (z_law) h2405 q_Mm_thrown wd1679 wd1680 wd1681 rfl (T := TX8) (N := 29) rfl)) ?_
  refine acP (SP_of (s_ild (M := M_Lw_law) (pc := 2408) h2408)) ?_
  refine acP (SP_of (s_icmp_eq (M := M_Lw_law) (pc := 2410) h2410 (by decide))) ?_
  refine acP (SP_of (s_iconst (M := M_Lw_law) (pc := 2413) h2413 rfl)) ?_
  refine acP (SP_of (s_zret (M := M_Lw_law) (pc := 2414) h2414 rfl)) ?_
  refine acP (SP_of (s_ild (M := M_Lw_law) (pc := 2415) h2415)) ?_
  refine acP (SP_of (s_if_ne (M := M_Lw_law) (pc := 2417) h2417 (by decide))) ?_
  refine acP (SP_of (s_aldn (M := M_Lw_law) (pc := 2420) (k := 3) h2420)) ?_
  refine acP (SP_of (s_iconst (M := M_Lw_law) (pc := 2421) h2421 rfl)) ?_
  refine acP (SP_of (s_lald (M := M_Lw_law) (pc := 2422) h2422)) ?_
  refine acP (SP_of (s_ild (M := M_Lw_law) (pc := 2423) h2423)) ?_
  refine acP (SP_of (s_i2l (M := M_Lw_law) (pc := 2425) h2425)) ?_
  refine acP (SP_of (s_lc_eq (M := M_Lw_law) (pc := 2426) h2426 h2427 (by decide))) ?_
  refine acP (SP_of (s_iconst (M := M_Lw_law) (pc := 2430) h2430 rfl)) ?_
  refine acP (SP_of (s_zret (M := M_Lw_law) (pc := 2431) h2431 rfl)) ?_
  refine acP (SP_of (s_goto (M := M_Lw_law) (pc := 2432) h2432 (by decide))) ?_
  exact acP_nil
theorem e0_Lw_law_2435 : decode code 2435 = .ok (.aload_n 1, 1) ∧ decode code 2436 = .ok (.aload_n 3, 1) ∧ decode code 2437 = .ok (.invokestatic 276, 3) ∧ decode code 2440 = .ok (.istore 5, 2) ∧ decode code 2442 = .ok (.aload_n 2, 1) ∧ decode code 2443 = .ok (.invokevirtual 279, 3) ∧ decode code 2446 = .ok (.istore 6, 2) ∧ decode code 2448 = .ok (.aload_n 2, 1) ∧ decode code 2449 = .ok (.invokevirtual 158, 3) ∧ decode code 2452 = .ok (.iload 5, 2) ∧ decode code 2454 = .ok (.if_icmp .eq 5, 3) ∧ decode code 2457 = .ok (.iconst 0, 1) := by decide +kernel
theorem e1_Lw_law_2435 : decode code 2458 = .ok (.ireturn, 1) ∧ decode code 2459 = .ok (.iload 5, 2) ∧ decode code 2461 = .ok (.ifCond .ne 15, 3) ∧ decode code 2464 = .ok (.aload_n 3, 1) ∧ decode code 2465 = .ok (.iconst 0, 1) ∧ decode code 2466 = .ok (.laload, 1) ∧ decode code 2467 = .ok (.iload 6, 2) ∧ decode code 2469 = .ok (.i2l, 1) ∧ decode code 2470 = .ok (.lcmp, 1) ∧ decode code 2471 = .ok (.ifCond .eq 5, 3) ∧ decode code 2474 = .ok (.iconst 0, 1) ∧ decode code 2475 = .ok (.ireturn, 1) := by decide +kernel
theorem e2_Lw_law_2435 : decode code 2476 = .ok (.goto 154, 3) := by decide +kernel
def T_Lw_law_2435 (L : Nat) (xs : Nat → Int32) : TT := [(2435, o_ald 1 2436), (2436, o_ald 3 2437), (2437, o_callW M_Lw_undo 2 1 34 2440), (2440, o_ist 5 2442), (2442, o_ald 2 2443), (2443, o_callV M_Mm_undo 8 1 2446), (2446, o_ist 6 2448), (2448, o_ald 2 2449), (2449, o_callV M_Mm_thrown 8 1 2452), (2452, o_ild 5 2454), (2454, o_icmp_eq 2459 2457), (2457, o_push (.int (iI (0))) 2458), (2458, o_zret), (2459, o_ild 5 2461), (2461, o_if_ne 2476 2464), (2464, o_ald 3 2465), (2465, o_push (.int (iI (0))) 2466), (2466, o_lald 2467), (2467, o_ild 6 2469), (2469, o_i2l 2470), (2470, o_lc_eq 2476 2474), (2474, o_push (.int (iI (0))) 2475), (2475, o_zret), (2476, o_goto 2630)]
theorem k_Lw_law_2435 (L : Nat) (xs : Nat → Int32) : ∀ x ∈ T_Lw_law_2435 L xs, SP (gS L xs) M_Lw_law x.1 x.2 := by
  obtain ⟨h2435, h2436, h2437, h2440, h2442, h2443, h2446, h2448, h2449, h2452, h2454, h2457⟩ := e0_Lw_law_2435
  obtain ⟨h2458, h2459, h2461, h2464, h2465, h2466, h2467, h2469, h2470, h2471, h2474, h2475⟩ := e1_Lw_law_2435
  have h2476 := e2_Lw_law_2435
  refine acP (SP_of (s_aldn (M := M_Lw_law) (pc := 2435) (k := 1) h2435)) ?_
  refine acP (SP_of (s_aldn (M := M_Lw_law) (pc := 2436) (k := 3) h2436)) ?_
  refine acP (SP_of (s_callW (M := M_Lw_law) (pc := 2437) (mc1 := 1) (ms1 := 34) (z_law) h2437 rfl q_Lw_undo wd1635 wd1636)) ?_
  refine acP (SP_of (s_ist (M := M_Lw_law) (pc := 2440) h2440 (by decide))) ?_
  refine acP (SP_of (s_aldn (M := M_Lw_law) (pc := 2442) (k := 2) h2442)) ?_
  refine acP (SP_of (s_callV (M := M_Lw_law) (pc := 2443) (z_law) h2443 q_Mm_undo wd2305 wd2306 wd2307 rfl (T := TX8) (N := 29) rfl)) ?_
  refine acP (SP_of (s_ist (M := M_Lw_law) (pc := 2446) h2446 (by decide))) ?_
  refine acP (SP_of (s_aldn (M := M_Lw_law) (pc := 2448) (k := 2) h2448)) ?_
  refine acP (SP_of (s_callV (M := M_Lw_law) (pc := 2449) (z_law) h2449 q_Mm_thrown wd1679 wd1680 wd1681 rfl (T := TX8) (N := 29) rfl)) ?_
  refine acP (SP_of (s_ild (M := M_Lw_law) (pc := 2452) h2452)) ?_
  refine acP (SP_of (s_icmp_eq (M := M_Lw_law) (pc := 2454) h2454 (by decide))) ?_
  refine acP (SP_of (s_iconst (M := M_Lw_law) (pc := 2457) h2457 rfl)) ?_
  refine acP (SP_of (s_zret (M := M_Lw_law) (pc := 2458) h2458 rfl)) ?_
  refine acP (SP_of (s_ild (M := M_Lw_law) (pc := 2459) h2459)) ?_
  refine acP (SP_of (s_if_ne (M := M_Lw_law) (pc := 2461) h2461 (by decide))) ?_
  refine acP (SP_of (s_aldn (M := M_Lw_law) (pc := 2464) (k := 3) h2464)) ?_
  refine acP (SP_of (s_iconst (M := M_Lw_law) (pc := 2465) h2465 rfl)) ?_
  refine acP (SP_of (s_lald (M := M_Lw_law) (pc := 2466) h2466)) ?_
  refine acP (SP_of (s_ild (M := M_Lw_law) (pc := 2467) h2467)) ?_
  refine acP (SP_of (s_i2l (M := M_Lw_law) (pc := 2469) h2469)) ?_
  refine acP (SP_of (s_lc_eq (M := M_Lw_law) (pc := 2470) h2470 h2471 (by decide))) ?_
  refine acP (SP_of (s_iconst (M := M_Lw_law) (pc := 2474) h2474 rfl)) ?_
  refine acP (SP_of (s_zret (M := M_Lw_law) (pc := 2475) h2475 rfl)) ?_
  refine acP (SP_of (s_goto (M := M_Lw_law) (pc := 2476) h2476 (by decide))) ?_
  exact acP_nil
theorem e0_Lw_law_2479 : decode code 2479 = .ok (.aload_n 1, 1) ∧ decode code 2480 = .ok (.aload_n 0, 1) ∧ decode code 2481 = .ok (.iload 4, 2) ∧ decode code 2483 = .ok (.iconst 1, 1) ∧ decode code 2484 = .ok (.iadd, 1) ∧ decode code 2485 = .ok (.iaload, 1) ∧ decode code 2486 = .ok (.aload_n 3, 1) ∧ decode code 2487 = .ok (.invokestatic 280, 3) ∧ decode code 2490 = .ok (.istore 5, 2) ∧ decode code 2492 = .ok (.aload_n 2, 1) ∧ decode code 2493 = .ok (.aload_n 0, 1) ∧ decode code 2494 = .ok (.iload 4, 2) := by decide +kernel
theorem e1_Lw_law_2479 : decode code 2496 = .ok (.iconst 1, 1) ∧ decode code 2497 = .ok (.iadd, 1) ∧ decode code 2498 = .ok (.iaload, 1) ∧ decode code 2499 = .ok (.invokevirtual 282, 3) ∧ decode code 2502 = .ok (.istore 6, 2) ∧ decode code 2504 = .ok (.aload_n 2, 1) ∧ decode code 2505 = .ok (.invokevirtual 158, 3) ∧ decode code 2508 = .ok (.iload 5, 2) ∧ decode code 2510 = .ok (.if_icmp .eq 5, 3) ∧ decode code 2513 = .ok (.iconst 0, 1) ∧ decode code 2514 = .ok (.ireturn, 1) ∧ decode code 2515 = .ok (.iload 5, 2) := by decide +kernel
theorem e2_Lw_law_2479 : decode code 2517 = .ok (.ifCond .ne 15, 3) ∧ decode code 2520 = .ok (.aload_n 3, 1) ∧ decode code 2521 = .ok (.iconst 0, 1) ∧ decode code 2522 = .ok (.laload, 1) ∧ decode code 2523 = .ok (.iload 6, 2) ∧ decode code 2525 = .ok (.i2l, 1) ∧ decode code 2526 = .ok (.lcmp, 1) ∧ decode code 2527 = .ok (.ifCond .eq 5, 3) ∧ decode code 2530 = .ok (.iconst 0, 1) ∧ decode code 2531 = .ok (.ireturn, 1) ∧ decode code 2532 = .ok (.goto 98, 3) := by decide +kernel
def T_Lw_law_2479 (L : Nat) (xs : Nat → Int32) : TT := [(2479, o_ald 1 2480), (2480, o_ald 0 2481), (2481, o_ild 4 2483), (2483, o_push (.int (iI (1))) 2484), (2484, o_iadd 2485), (2485, o_sld L xs 2486), (2486, o_ald 3 2487), (2487, o_callW M_Lw_printRegister 3 1 34 2490), (2490, o_ist 5 2492), (2492, o_ald 2 2493), (2493, o_ald 0 2494), (2494, o_ild 4 2496), (2496, o_push (.int (iI (1))) 2497), (2497, o_iadd 2498), (2498, o_sld L xs 2499), (2499, o_callV M_Mm_printRegister 8 2 2502), (2502, o_ist 6 2504), (2504, o_ald 2 2505), (2505, o_callV M_Mm_thrown 8 1 2508), (2508, o_ild 5 2510), (2510, o_icmp_eq 2515 2513), (2513, o_push (.int (iI (0))) 2514), (2514, o_zret), (2515, o_ild 5 2517), (2517, o_if_ne 2532 2520), (2520, o_ald 3 2521), (2521, o_push (.int (iI (0))) 2522), (2522, o_lald 2523), (2523, o_ild 6 2525), (2525, o_i2l 2526), (2526, o_lc_eq 2532 2530), (2530, o_push (.int (iI (0))) 2531), (2531, o_zret), (2532, o_goto 2630)]
theorem k_Lw_law_2479 (L : Nat) (xs : Nat → Int32) : ∀ x ∈ T_Lw_law_2479 L xs, SP (gS L xs) M_Lw_law x.1 x.2 := by
  obtain ⟨h2479, h2480, h2481, h2483, h2484, h2485, h2486, h2487, h2490, h2492, h2493, h2494⟩ := e0_Lw_law_2479
  obtain ⟨h2496, h2497, h2498, h2499, h2502, h2504, h2505, h2508, h2510, h2513, h2514, h2515⟩ := e1_Lw_law_2479
  obtain ⟨h2517, h2520, h2521, h2522, h2523, h2525, h2526, h2527, h2530, h2531, h2532⟩ := e2_Lw_law_2479
  refine acP (SP_of (s_aldn (M := M_Lw_law) (pc := 2479) (k := 1) h2479)) ?_
  refine acP (SP_of (s_aldn (M := M_Lw_law) (pc := 2480) (k := 0) h2480)) ?_
  refine acP (SP_of (s_ild (M := M_Lw_law) (pc := 2481) h2481)) ?_
  refine acP (SP_of (s_iconst (M := M_Lw_law) (pc := 2483) h2483 rfl)) ?_
  refine acP (SP_of (s_iadd (M := M_Lw_law) (pc := 2484) h2484)) ?_
  refine acP (s_sld (M := M_Lw_law) (pc := 2485) h2485) ?_
  refine acP (SP_of (s_aldn (M := M_Lw_law) (pc := 2486) (k := 3) h2486)) ?_
  refine acP (SP_of (s_callW (M := M_Lw_law) (pc := 2487) (mc1 := 1) (ms1 := 34) (z_law) h2487 rfl q_Lw_printRegister wd1662 wd1663)) ?_
  refine acP (SP_of (s_ist (M := M_Lw_law) (pc := 2490) h2490 (by decide))) ?_
  refine acP (SP_of (s_aldn (M := M_Lw_law) (pc := 2492) (k := 2) h2492)) ?_
  refine acP (SP_of (s_aldn (M := M_Lw_law) (pc := 2493) (k := 0) h2493)) ?_
  refine acP (SP_of (s_ild (M := M_Lw_law) (pc := 2494) h2494)) ?_
  refine acP (SP_of (s_iconst (M := M_Lw_law) (pc := 2496) h2496 rfl)) ?_
  refine acP (SP_of (s_iadd (M := M_Lw_law) (pc := 2497) h2497)) ?_
  refine acP (s_sld (M := M_Lw_law) (pc := 2498) h2498) ?_
  refine acP (SP_of (s_callV (M := M_Lw_law) (pc := 2499) (z_law) h2499 q_Mm_printRegister wd2309 wd2310 wd2311 rfl (T := TX8) (N := 29) rfl)) ?_
  refine acP (SP_of (s_ist (M := M_Lw_law) (pc := 2502) h2502 (by decide))) ?_
  refine acP (SP_of (s_aldn (M := M_Lw_law) (pc := 2504) (k := 2) h2504)) ?_
  refine acP (SP_of (s_callV (M := M_Lw_law) (pc := 2505) (z_law) h2505 q_Mm_thrown wd1679 wd1680 wd1681 rfl (T := TX8) (N := 29) rfl)) ?_
  refine acP (SP_of (s_ild (M := M_Lw_law) (pc := 2508) h2508)) ?_
  refine acP (SP_of (s_icmp_eq (M := M_Lw_law) (pc := 2510) h2510 (by decide))) ?_
  refine acP (SP_of (s_iconst (M := M_Lw_law) (pc := 2513) h2513 rfl)) ?_
  refine acP (SP_of (s_zret (M := M_Lw_law) (pc := 2514) h2514 rfl)) ?_
  refine acP (SP_of (s_ild (M := M_Lw_law) (pc := 2515) h2515)) ?_
  refine acP (SP_of (s_if_ne (M := M_Lw_law) (pc := 2517) h2517 (by decide))) ?_
  refine acP (SP_of (s_aldn (M := M_Lw_law) (pc := 2520) (k := 3) h2520)) ?_
  refine acP (SP_of (s_iconst (M := M_Lw_law) (pc := 2521) h2521 rfl)) ?_
  refine acP (SP_of (s_lald (M := M_Lw_law) (pc := 2522) h2522)) ?_
  refine acP (SP_of (s_ild (M := M_Lw_law) (pc := 2523) h2523)) ?_
  refine acP (SP_of (s_i2l (M := M_Lw_law) (pc := 2525) h2525)) ?_
  refine acP (SP_of (s_lc_eq (M := M_Lw_law) (pc := 2526) h2526 h2527 (by decide))) ?_
  refine acP (SP_of (s_iconst (M := M_Lw_law) (pc := 2530) h2530 rfl)) ?_
  refine acP (SP_of (s_zret (M := M_Lw_law) (pc := 2531) h2531 rfl)) ?_
  refine acP (SP_of (s_goto (M := M_Lw_law) (pc := 2532) h2532 (by decide))) ?_
  exact acP_nil
theorem e0_Lw_law_2535 : decode code 2535 = .ok (.aload_n 1, 1) ∧ decode code 2536 = .ok (.invokevirtual 283, 3) ∧ decode code 2539 = .ok (.aload_n 2, 1) ∧ decode code 2540 = .ok (.invokevirtual 286, 3) ∧ decode code 2543 = .ok (.if_icmp .eq 87, 3) ∧ decode code 2546 = .ok (.iconst 0, 1) ∧ decode code 2547 = .ok (.ireturn, 1) := by decide +kernel
def T_Lw_law_2535 (L : Nat) (xs : Nat → Int32) : TT := [(2535, o_ald 1 2536), (2536, o_alt (o_callV M_R_printModuli 0 1 2539) (o_callVB M_R_printModuli 0 1 1 34 2539)), (2539, o_ald 2 2540), (2540, o_alt (o_callV M_Mm_printModuli 8 1 2543) (o_callVB M_Mm_printModuli 8 1 1 34 2543)), (2543, o_icmp_eq 2630 2546), (2546, o_push (.int (iI (0))) 2547), (2547, o_zret)]
theorem k_Lw_law_2535 (L : Nat) (xs : Nat → Int32) : ∀ x ∈ T_Lw_law_2535 L xs, SP (gS L xs) M_Lw_law x.1 x.2 := by
  obtain ⟨h2535, h2536, h2539, h2540, h2543, h2546, h2547⟩ := e0_Lw_law_2535
  refine acP (SP_of (s_aldn (M := M_Lw_law) (pc := 2535) (k := 1) h2535)) ?_
  refine acP (SP_of (s_alt (M := M_Lw_law) (pc := 2536) (s_callV (z_law) h2536 q_R_printModuli wd948 wd949 wd950 rfl (T := TX7) (N := 12) rfl) (s_callVB (mc1 := 1) (ms1 := 34) (z_law) h2536 q_R_printModuli wd948 wd949 wd950 rfl (T := TX7) (N := 12) rfl))) ?_
  refine acP (SP_of (s_aldn (M := M_Lw_law) (pc := 2539) (k := 2) h2539)) ?_
  refine acP (SP_of (s_alt (M := M_Lw_law) (pc := 2540) (s_callV (z_law) h2540 q_Mm_printModuli wd2323 wd2324 wd2325 rfl (T := TX8) (N := 29) rfl) (s_callVB (mc1 := 1) (ms1 := 34) (z_law) h2540 q_Mm_printModuli wd2323 wd2324 wd2325 rfl (T := TX8) (N := 29) rfl))) ?_
  refine acP (SP_of (s_icmp_eq (M := M_Lw_law) (pc := 2543) h2543 (by decide))) ?_
  refine acP (SP_of (s_iconst (M := M_Lw_law) (pc := 2546) h2546 rfl)) ?_
  refine acP (SP_of (s_zret (M := M_Lw_law) (pc := 2547) h2547 rfl)) ?_
  exact acP_nil
theorem e0_Lw_law_2548 : decode code 2548 = .ok (.aload_n 1, 1) ∧ decode code 2549 = .ok (.aload_n 0, 1) ∧ decode code 2550 = .ok (.iload 4, 2) ∧ decode code 2552 = .ok (.iconst 1, 1) ∧ decode code 2553 = .ok (.iadd, 1) ∧ decode code 2554 = .ok (.iaload, 1) ∧ decode code 2555 = .ok (.invokevirtual 287, 3) ∧ decode code 2558 = .ok (.aload_n 2, 1) ∧ decode code 2559 = .ok (.aload_n 0, 1) ∧ decode code 2560 = .ok (.iload 4, 2) ∧ decode code 2562 = .ok (.iconst 1, 1) ∧ decode code 2563 = .ok (.iadd, 1) := by decide +kernel
theorem e1_Lw_law_2548 : decode code 2564 = .ok (.iaload, 1) ∧ decode code 2565 = .ok (.invokevirtual 290, 3) ∧ decode code 2568 = .ok (.if_icmp .eq 62, 3) ∧ decode code 2571 = .ok (.iconst 0, 1) ∧ decode code 2572 = .ok (.ireturn, 1) := by decide +kernel
def T_Lw_law_2548 (L : Nat) (xs : Nat → Int32) : TT := [(2548, o_ald 1 2549), (2549, o_ald 0 2550), (2550, o_ild 4 2552), (2552, o_push (.int (iI (1))) 2553), (2553, o_iadd 2554), (2554, o_sld L xs 2555), (2555, o_callV M_R_outputByte 0 2 2558), (2558, o_ald 2 2559), (2559, o_ald 0 2560), (2560, o_ild 4 2562), (2562, o_push (.int (iI (1))) 2563), (2563, o_iadd 2564), (2564, o_sld L xs 2565), (2565, o_callV M_Mm_outputByte 8 2 2568), (2568, o_icmp_eq 2630 2571), (2571, o_push (.int (iI (0))) 2572), (2572, o_zret)]
theorem k_Lw_law_2548 (L : Nat) (xs : Nat → Int32) : ∀ x ∈ T_Lw_law_2548 L xs, SP (gS L xs) M_Lw_law x.1 x.2 := by
  obtain ⟨h2548, h2549, h2550, h2552, h2553, h2554, h2555, h2558, h2559, h2560, h2562, h2563⟩ := e0_Lw_law_2548
  obtain ⟨h2564, h2565, h2568, h2571, h2572⟩ := e1_Lw_law_2548
  refine acP (SP_of (s_aldn (M := M_Lw_law) (pc := 2548) (k := 1) h2548)) ?_
  refine acP (SP_of (s_aldn (M := M_Lw_law) (pc := 2549) (k := 0) h2549)) ?_
  refine acP (SP_of (s_ild (M := M_Lw_law) (pc := 2550) h2550)) ?_
  refine acP (SP_of (s_iconst (M := M_Lw_law) (pc := 2552) h2552 rfl)) ?_
  refine acP (SP_of (s_iadd (M := M_Lw_law) (pc := 2553) h2553)) ?_
  refine acP (s_sld (M := M_Lw_law) (pc := 2554) h2554) ?_
  refine acP (SP_of (s_callV (M := M_Lw_law) (pc := 2555) (z_law) h2555 q_R_outputByte wd1279 wd1280 wd1281 rfl (T := TX7) (N := 12) rfl)) ?_
  refine acP (SP_of (s_aldn (M := M_Lw_law) (pc := 2558) (k := 2) h2558)) ?_
  refine acP (SP_of (s_aldn (M := M_Lw_law) (pc := 2559) (k := 0) h2559)) ?_
  refine acP (SP_of (s_ild (M := M_Lw_law) (pc := 2560) h2560)) ?_
  refine acP (SP_of (s_iconst (M := M_Lw_law) (pc := 2562) h2562 rfl)) ?_
  refine acP (SP_of (s_iadd (M := M_Lw_law) (pc := 2563) h2563)) ?_
  refine acP (s_sld (M := M_Lw_law) (pc := 2564) h2564) ?_
  refine acP (SP_of (s_callV (M := M_Lw_law) (pc := 2565) (z_law) h2565 q_Mm_outputByte wd2327 wd2328 wd2329 rfl (T := TX8) (N := 29) rfl)) ?_
  refine acP (SP_of (s_icmp_eq (M := M_Lw_law) (pc := 2568) h2568 (by decide))) ?_
  refine acP (SP_of (s_iconst (M := M_Lw_law) (pc := 2571) h2571 rfl)) ?_
  refine acP (SP_of (s_zret (M := M_Lw_law) (pc := 2572) h2572 rfl)) ?_
  exact acP_nil
theorem e0_Lw_law_2573 : decode code 2573 = .ok (.aload_n 1, 1) ∧ decode code 2574 = .ok (.invokevirtual 291, 3) ∧ decode code 2577 = .ok (.aload_n 2, 1) ∧ decode code 2578 = .ok (.invokevirtual 294, 3) ∧ decode code 2581 = .ok (.if_icmp .eq 49, 3) ∧ decode code 2584 = .ok (.iconst 0, 1) ∧ decode code 2585 = .ok (.ireturn, 1) := by decide +kernel
def T_Lw_law_2573 (L : Nat) (xs : Nat → Int32) : TT := [(2573, o_ald 1 2574), (2574, o_callV M_R_saveState 0 1 2577), (2577, o_ald 2 2578), (2578, o_callV M_Mm_saveState 8 1 2581), (2581, o_icmp_eq 2630 2584), (2584, o_push (.int (iI (0))) 2585), (2585, o_zret)]
theorem k_Lw_law_2573 (L : Nat) (xs : Nat → Int32) : ∀ x ∈ T_Lw_law_2573 L xs, SP (gS L xs) M_Lw_law x.1 x.2 := by
  obtain ⟨h2573, h2574, h2577, h2578, h2581, h2584, h2585⟩ := e0_Lw_law_2573
  refine acP (SP_of (s_aldn (M := M_Lw_law) (pc := 2573) (k := 1) h2573)) ?_
  refine acP (SP_of (s_callV (M := M_Lw_law) (pc := 2574) (z_law) h2574 q_R_saveState wd1293 wd1294 wd1295 rfl (T := TX7) (N := 12) rfl)) ?_
  refine acP (SP_of (s_aldn (M := M_Lw_law) (pc := 2577) (k := 2) h2577)) ?_
  refine acP (SP_of (s_callV (M := M_Lw_law) (pc := 2578) (z_law) h2578 q_Mm_saveState wd2331 wd2332 wd2333 rfl (T := TX8) (N := 29) rfl)) ?_
  refine acP (SP_of (s_icmp_eq (M := M_Lw_law) (pc := 2581) h2581 (by decide))) ?_
  refine acP (SP_of (s_iconst (M := M_Lw_law) (pc := 2584) h2584 rfl)) ?_
  refine acP (SP_of (s_zret (M := M_Lw_law) (pc := 2585) h2585 rfl)) ?_
  exact acP_nil
theorem e0_Lw_law_2586 : decode code 2586 = .ok (.aload_n 1, 1) ∧ decode code 2587 = .ok (.aload_n 3, 1) ∧ decode code 2588 = .ok (.invokestatic 295, 3) ∧ decode code 2591 = .ok (.istore 5, 2) ∧ decode code 2593 = .ok (.aload_n 2, 1) ∧ decode code 2594 = .ok (.invokevirtual 297, 3) ∧ decode code 2597 = .ok (.istore 6, 2) ∧ decode code 2599 = .ok (.aload_n 2, 1) ∧ decode code 2600 = .ok (.invokevirtual 158, 3) ∧ decode code 2603 = .ok (.iload 5, 2) ∧ decode code 2605 = .ok (.if_icmp .eq 5, 3) ∧ decode code 2608 = .ok (.iconst 0, 1) := by decide +kernel
theorem e1_Lw_law_2586 : decode code 2609 = .ok (.ireturn, 1) ∧ decode code 2610 = .ok (.iload 5, 2) ∧ decode code 2612 = .ok (.ifCond .ne 15, 3) ∧ decode code 2615 = .ok (.aload_n 3, 1) ∧ decode code 2616 = .ok (.iconst 0, 1) ∧ decode code 2617 = .ok (.laload, 1) ∧ decode code 2618 = .ok (.iload 6, 2) ∧ decode code 2620 = .ok (.i2l, 1) ∧ decode code 2621 = .ok (.lcmp, 1) ∧ decode code 2622 = .ok (.ifCond .eq 5, 3) ∧ decode code 2625 = .ok (.iconst 0, 1) ∧ decode code 2626 = .ok (.ireturn, 1) := by decide +kernel
theorem e2_Lw_law_2586 : decode code 2627 = .ok (.goto 3, 3) := by decide +kernel
def T_Lw_law_2586 (L : Nat) (xs : Nat → Int32) : TT := [(2586, o_ald 1 2587), (2587, o_ald 3 2588), (2588, o_callW M_Lw_restoreState 2 1 34 2591), (2591, o_ist 5 2593), (2593, o_ald 2 2594), (2594, o_callV M_Mm_restoreState 8 1 2597), (2597, o_ist 6 2599), (2599, o_ald 2 2600), (2600, o_callV M_Mm_thrown 8 1 2603), (2603, o_ild 5 2605), (2605, o_icmp_eq 2610 2608), (2608, o_push (.int (iI (0))) 2609), (2609, o_zret), (2610, o_ild 5 2612), (2612, o_if_ne 2627 2615), (2615, o_ald 3 2616), (2616, o_push (.int (iI (0))) 2617), (2617, o_lald 2618), (2618, o_ild 6 2620), (2620, o_i2l 2621), (2621, o_lc_eq 2627 2625), (2625, o_push (.int (iI (0))) 2626), (2626, o_zret), (2627, o_goto 2630)]
theorem k_Lw_law_2586 (L : Nat) (xs : Nat → Int32) : ∀ x ∈ T_Lw_law_2586 L xs, SP (gS L xs) M_Lw_law x.1 x.2 := by
  obtain ⟨h2586, h2587, h2588, h2591, h2593, h2594, h2597, h2599, h2600, h2603, h2605, h2608⟩ := e0_Lw_law_2586
  obtain ⟨h2609, h2610, h2612, h2615, h2616, h2617, h2618, h2620, h2621, h2622, h2625, h2626⟩ := e1_Lw_law_2586
  have h2627 := e2_Lw_law_2586
  refine acP (SP_of (s_aldn (M := M_Lw_law) (pc := 2586) (k := 1) h2586)) ?_
  refine acP (SP_of (s_aldn (M := M_Lw_law) (pc := 2587) (k := 3) h2587)) ?_
  refine acP (SP_of (s_callW (M := M_Lw_law) (pc := 2588) (mc1 := 1) (ms1 := 34) (z_law) h2588 rfl q_Lw_restoreState wd1672 wd1673)) ?_
  refine acP (SP_of (s_ist (M := M_Lw_law) (pc := 2591) h2591 (by decide))) ?_
  refine acP (SP_of (s_aldn (M := M_Lw_law) (pc := 2593) (k := 2) h2593)) ?_
  refine acP (SP_of (s_callV (M := M_Lw_law) (pc := 2594) (z_law) h2594 q_Mm_restoreState wd2335 wd2336 wd2337 rfl (T := TX8) (N := 29) rfl)) ?_
  refine acP (SP_of (s_ist (M := M_Lw_law) (pc := 2597) h2597 (by decide))) ?_
  refine acP (SP_of (s_aldn (M := M_Lw_law) (pc := 2599) (k := 2) h2599)) ?_
  refine acP (SP_of (s_callV (M := M_Lw_law) (pc := 2600) (z_law) h2600 q_Mm_thrown wd1679 wd1680 wd1681 rfl (T := TX8) (N := 29) rfl)) ?_
  refine acP (SP_of (s_ild (M := M_Lw_law) (pc := 2603) h2603)) ?_
  refine acP (SP_of (s_icmp_eq (M := M_Lw_law) (pc := 2605) h2605 (by decide))) ?_
  refine acP (SP_of (s_iconst (M := M_Lw_law) (pc := 2608) h2608 rfl)) ?_
  refine acP (SP_of (s_zret (M := M_Lw_law) (pc := 2609) h2609 rfl)) ?_
  refine acP (SP_of (s_ild (M := M_Lw_law) (pc := 2610) h2610)) ?_
  refine acP (SP_of (s_if_ne (M := M_Lw_law) (pc := 2612) h2612 (by decide))) ?_
  refine acP (SP_of (s_aldn (M := M_Lw_law) (pc := 2615) (k := 3) h2615)) ?_
  refine acP (SP_of (s_iconst (M := M_Lw_law) (pc := 2616) h2616 rfl)) ?_
  refine acP (SP_of (s_lald (M := M_Lw_law) (pc := 2617) h2617)) ?_
  refine acP (SP_of (s_ild (M := M_Lw_law) (pc := 2618) h2618)) ?_
  refine acP (SP_of (s_i2l (M := M_Lw_law) (pc := 2620) h2620)) ?_
  refine acP (SP_of (s_lc_eq (M := M_Lw_law) (pc := 2621) h2621 h2622 (by decide))) ?_
  refine acP (SP_of (s_iconst (M := M_Lw_law) (pc := 2625) h2625 rfl)) ?_
  refine acP (SP_of (s_zret (M := M_Lw_law) (pc := 2626) h2626 rfl)) ?_
  refine acP (SP_of (s_goto (M := M_Lw_law) (pc := 2627) h2627 (by decide))) ?_
  exact acP_nil
theorem e0_Lw_law_2630 : decode code 2630 = .ok (.iinc 4 6, 3) ∧ decode code 2633 = .ok (.goto (-2610), 3) ∧ decode code 2636 = .ok (.iconst 1, 1) ∧ decode code 2637 = .ok (.ireturn, 1) := by decide +kernel
def T_Lw_law_2630 (L : Nat) (xs : Nat → Int32) : TT := [(2630, o_iinc 4 (iI (6)) 2633), (2633, o_goto 23), (2636, o_push (.int (iI (1))) 2637), (2637, o_zret)]
theorem k_Lw_law_2630 (L : Nat) (xs : Nat → Int32) : ∀ x ∈ T_Lw_law_2630 L xs, SP (gS L xs) M_Lw_law x.1 x.2 := by
  obtain ⟨h2630, h2633, h2636, h2637⟩ := e0_Lw_law_2630
  refine acP (SP_of (s_iinc (M := M_Lw_law) (pc := 2630) h2630 rfl (by decide))) ?_
  refine acP (SP_of (s_goto (M := M_Lw_law) (pc := 2633) h2633 (by decide))) ?_
  refine acP (SP_of (s_iconst (M := M_Lw_law) (pc := 2636) h2636 rfl)) ?_
  refine acP (SP_of (s_zret (M := M_Lw_law) (pc := 2637) h2637 rfl)) ?_
  exact acP_nil
