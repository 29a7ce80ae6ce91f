theorem e0_Lw_count : decode method_3_code 0 = .ok (.aload_n 2, 1) ∧ decode method_3_code 1 = .ok (.iconst 0, 1) ∧ decode method_3_code 2 = .ok (.aload_n 0, 1) ∧ decode method_3_code 3 = .ok (.iload_n 1, 1) ∧ decode method_3_code 4 = .ok (.invokevirtual 7, 3) ∧ decode method_3_code 7 = .ok (.i2l, 1) ∧ decode method_3_code 8 = .ok (.lastore, 1) ∧ decode method_3_code 9 = .ok (.goto 6, 3) ∧ decode method_3_code 12 = .ok (.astore_n 3, 1) ∧ decode method_3_code 13 = .ok (.iconst 1, 1) ∧ decode method_3_code 14 = .ok (.ireturn, 1) ∧ decode method_3_code 15 = .ok (.iconst 0, 1) := by decide +kernel
theorem e1_Lw_count : decode method_3_code 16 = .ok (.ireturn, 1) := by decide +kernel
def T_Lw_count : TT := [(0, o_ald 2 1), (1, o_push (.int (iI (0))) 2), (2, o_ald 0 3), (3, o_ild 1 4), (4, o_callC M_R_count 0 2 1 34 [("java/lang/IllegalArgumentException", 1)] 7), (7, o_i2l 8), (8, o_last 9), (9, o_goto 15), (12, o_ast 3 13), (13, o_push (.int (iI (1))) 14), (14, o_iret), (15, o_push (.int (iI (0))) 16), (16, o_iret)]
theorem k_Lw_count : ∀ x ∈ T_Lw_count, SO M_Lw_count x.1 x.2 := by
  obtain ⟨h0, h1, h2, h3, h4, h7, h8, h9, h12, h13, h14, h15⟩ := e0_Lw_count
  have h16 := e1_Lw_count
  refine ac (s_aldn (M := M_Lw_count) (pc := 0) (k := 2) h0) ?_
  refine ac (s_iconst (M := M_Lw_count) (pc := 1) h1 rfl) ?_
  refine ac (s_aldn (M := M_Lw_count) (pc := 2) (k := 0) h2) ?_
  refine ac (s_ildn (M := M_Lw_count) (pc := 3) (k := 1) h3) ?_
  refine ac (s_callC (M := M_Lw_count) (pc := 4) (mc1 := 1) (ms1 := 34) (hand := [("java/lang/IllegalArgumentException", 1)]) (show HL M_Lw_count 4 (tabOf M_Lw_count.1) [("java/lang/IllegalArgumentException", 1)] from ⟨⟨by decide, by decide, wd1300, (List.mem_of_getElem? (i := 0) rfl), 13, Or.inl ⟨3, h12, by decide, rfl⟩, h13, h14⟩, by decide, trivial⟩) rfl h4 q_R_count wd1301 wd1302 wd1303 rfl (T := TX7) (N := 12) rfl) ?_
  refine ac (s_i2l (M := M_Lw_count) (pc := 7) h7) ?_
  refine ac (s_last (M := M_Lw_count) (pc := 8) h8) ?_
  refine ac (s_goto (M := M_Lw_count) (pc := 9) h9 (by decide)) ?_
  refine ac (s_astn (M := M_Lw_count) (pc := 12) (k := 3) h12 (by decide)) ?_
  refine ac (s_iconst (M := M_Lw_count) (pc := 13) h13 rfl) ?_
  refine ac (s_iret (M := M_Lw_count) (pc := 14) h14 rfl) ?_
  refine ac (s_iconst (M := M_Lw_count) (pc := 15) h15 rfl) ?_
  refine ac (s_iret (M := M_Lw_count) (pc := 16) h16 rfl) ?_
  exact ac_nil
theorem e0_Lw_account : decode method_4_code 0 = .ok (.aload_n 2, 1) ∧ decode method_4_code 1 = .ok (.iconst 0, 1) ∧ decode method_4_code 2 = .ok (.aload_n 0, 1) ∧ decode method_4_code 3 = .ok (.iload_n 1, 1) ∧ decode method_4_code 4 = .ok (.invokevirtual 15, 3) ∧ decode method_4_code 7 = .ok (.i2l, 1) ∧ decode method_4_code 8 = .ok (.lastore, 1) ∧ decode method_4_code 9 = .ok (.goto 6, 3) ∧ decode method_4_code 12 = .ok (.astore_n 3, 1) ∧ decode method_4_code 13 = .ok (.iconst 1, 1) ∧ decode method_4_code 14 = .ok (.ireturn, 1) ∧ decode method_4_code 15 = .ok (.iconst 0, 1) := by decide +kernel
theorem e1_Lw_account : decode method_4_code 16 = .ok (.ireturn, 1) := by decide +kernel
def T_Lw_account : TT := [(0, o_ald 2 1), (1, o_push (.int (iI (0))) 2), (2, o_ald 0 3), (3, o_ild 1 4), (4, o_callC M_R_account 0 2 1 34 [("java/lang/IllegalArgumentException", 1)] 7), (7, o_i2l 8), (8, o_last 9), (9, o_goto 15), (12, o_ast 3 13), (13, o_push (.int (iI (1))) 14), (14, o_iret), (15, o_push (.int (iI (0))) 16), (16, o_iret)]
theorem k_Lw_account : ∀ x ∈ T_Lw_account, SO M_Lw_account x.1 x.2 := by
  obtain ⟨h0, h1, h2, h3, h4, h7, h8, h9, h12, h13, h14, h15⟩ := e0_Lw_account
  have h16 := e1_Lw_account
  refine ac (s_aldn (M := M_Lw_account) (pc := 0) (k := 2) h0) ?_
  refine ac (s_iconst (M := M_Lw_account) (pc := 1) h1 rfl) ?_
  refine ac (s_aldn (M := M_Lw_account) (pc := 2) (k := 0) h2) ?_
  refine ac (s_ildn (M := M_Lw_account) (pc := 3) (k := 1) h3) ?_
  refine ac (s_callC (M := M_Lw_account) (pc := 4) (mc1 := 1) (ms1 := 34) (hand := [("java/lang/IllegalArgumentException", 1)]) (show HL M_Lw_account 4 (tabOf M_Lw_account.1) [("java/lang/IllegalArgumentException", 1)] from ⟨⟨by decide, by decide, wd1300, (List.mem_of_getElem? (i := 0) rfl), 13, Or.inl ⟨3, h12, by decide, rfl⟩, h13, h14⟩, by decide, trivial⟩) rfl h4 q_R_account wd1330 wd1331 wd1332 rfl (T := TX7) (N := 12) rfl) ?_
  refine ac (s_i2l (M := M_Lw_account) (pc := 7) h7) ?_
  refine ac (s_last (M := M_Lw_account) (pc := 8) h8) ?_
  refine ac (s_goto (M := M_Lw_account) (pc := 9) h9 (by decide)) ?_
  refine ac (s_astn (M := M_Lw_account) (pc := 12) (k := 3) h12 (by decide)) ?_
  refine ac (s_iconst (M := M_Lw_account) (pc := 13) h13 rfl) ?_
  refine ac (s_iret (M := M_Lw_account) (pc := 14) h14 rfl) ?_
  refine ac (s_iconst (M := M_Lw_account) (pc := 15) h15 rfl) ?_
  refine ac (s_iret (M := M_Lw_account) (pc := 16) h16 rfl) ?_
  exact ac_nil
theorem e0_Lw_bound : decode method_5_code 0 = .ok (.aload_n 2, 1) ∧ decode method_5_code 1 = .ok (.iconst 0, 1) ∧ decode method_5_code 2 = .ok (.aload_n 0, 1) ∧ decode method_5_code 3 = .ok (.iload_n 1, 1) ∧ decode method_5_code 4 = .ok (.invokevirtual 18, 3) ∧ decode method_5_code 7 = .ok (.lastore, 1) ∧ decode method_5_code 8 = .ok (.goto 6, 3) ∧ decode method_5_code 11 = .ok (.astore_n 3, 1) ∧ decode method_5_code 12 = .ok (.iconst 1, 1) ∧ decode method_5_code 13 = .ok (.ireturn, 1) ∧ decode method_5_code 14 = .ok (.iconst 0, 1) ∧ decode method_5_code 15 = .ok (.ireturn, 1) := by decide +kernel
def T_Lw_bound : TT := [(0, o_ald 2 1), (1, o_push (.int (iI (0))) 2), (2, o_ald 0 3), (3, o_ild 1 4), (4, o_callC M_R_bound 0 2 1 34 [("java/lang/IllegalArgumentException", 1)] 7), (7, o_last 8), (8, o_goto 14), (11, o_ast 3 12), (12, o_push (.int (iI (1))) 13), (13, o_iret), (14, o_push (.int (iI (0))) 15), (15, o_iret)]
theorem k_Lw_bound : ∀ x ∈ T_Lw_bound, SO M_Lw_bound x.1 x.2 := by
  obtain ⟨h0, h1, h2, h3, h4, h7, h8, h11, h12, h13, h14, h15⟩ := e0_Lw_bound
  refine ac (s_aldn (M := M_Lw_bound) (pc := 0) (k := 2) h0) ?_
  refine ac (s_iconst (M := M_Lw_bound) (pc := 1) h1 rfl) ?_
  refine ac (s_aldn (M := M_Lw_bound) (pc := 2) (k := 0) h2) ?_
  refine ac (s_ildn (M := M_Lw_bound) (pc := 3) (k := 1) h3) ?_
  refine ac (s_callC (M := M_Lw_bound) (pc := 4) (mc1 := 1) (ms1 := 34) (hand := [("java/lang/IllegalArgumentException", 1)]) (show HL M_Lw_bound 4 (tabOf M_Lw_bound.1) [("java/lang/IllegalArgumentException", 1)] from ⟨⟨by decide, by decide, wd1300, (List.mem_of_getElem? (i := 0) rfl), 12, Or.inl ⟨3, h11, by decide, rfl⟩, h12, h13⟩, by decide, trivial⟩) rfl h4 q_R_bound wd1341 wd1342 wd1343 rfl (T := TX7) (N := 12) rfl) ?_
  refine ac (s_last (M := M_Lw_bound) (pc := 7) h7) ?_
  refine ac (s_goto (M := M_Lw_bound) (pc := 8) h8 (by decide)) ?_
  refine ac (s_astn (M := M_Lw_bound) (pc := 11) (k := 3) h11 (by decide)) ?_
  refine ac (s_iconst (M := M_Lw_bound) (pc := 12) h12 rfl) ?_
  refine ac (s_iret (M := M_Lw_bound) (pc := 13) h13 rfl) ?_
  refine ac (s_iconst (M := M_Lw_bound) (pc := 14) h14 rfl) ?_
  refine ac (s_iret (M := M_Lw_bound) (pc := 15) h15 rfl) ?_
  exact ac_nil
theorem e0_Lw_modulus : decode method_6_code 0 = .ok (.aload_n 2, 1) ∧ decode method_6_code 1 = .ok (.iconst 0, 1) ∧ decode method_6_code 2 = .ok (.aload_n 0, 1) ∧ decode method_6_code 3 = .ok (.iload_n 1, 1) ∧ decode method_6_code 4 = .ok (.invokevirtual 22, 3) ∧ decode method_6_code 7 = .ok (.i2l, 1) ∧ decode method_6_code 8 = .ok (.lastore, 1) ∧ decode method_6_code 9 = .ok (.goto 6, 3) ∧ decode method_6_code 12 = .ok (.astore_n 3, 1) ∧ decode method_6_code 13 = .ok (.iconst 1, 1) ∧ decode method_6_code 14 = .ok (.ireturn, 1) ∧ decode method_6_code 15 = .ok (.iconst 0, 1) := by decide +kernel
theorem e1_Lw_modulus : decode method_6_code 16 = .ok (.ireturn, 1) := by decide +kernel
def T_Lw_modulus : TT := [(0, o_ald 2 1), (1, o_push (.int (iI (0))) 2), (2, o_ald 0 3), (3, o_ild 1 4), (4, o_callC M_R_modulus 0 2 1 34 [("java/lang/IndexOutOfBoundsException", 1)] 7), (7, o_i2l 8), (8, o_last 9), (9, o_goto 15), (12, o_ast 3 13), (13, o_push (.int (iI (1))) 14), (14, o_iret), (15, o_push (.int (iI (0))) 16), (16, o_iret)]
theorem k_Lw_modulus : ∀ x ∈ T_Lw_modulus, SO M_Lw_modulus x.1 x.2 := by
  obtain ⟨h0, h1, h2, h3, h4, h7, h8, h9, h12, h13, h14, h15⟩ := e0_Lw_modulus
  have h16 := e1_Lw_modulus
  refine ac (s_aldn (M := M_Lw_modulus) (pc := 0) (k := 2) h0) ?_
  refine ac (s_iconst (M := M_Lw_modulus) (pc := 1) h1 rfl) ?_
  refine ac (s_aldn (M := M_Lw_modulus) (pc := 2) (k := 0) h2) ?_
  refine ac (s_ildn (M := M_Lw_modulus) (pc := 3) (k := 1) h3) ?_
  refine ac (s_callC (M := M_Lw_modulus) (pc := 4) (mc1 := 1) (ms1 := 34) (hand := [("java/lang/IndexOutOfBoundsException", 1)]) (show HL M_Lw_modulus 4 (tabOf M_Lw_modulus.1) [("java/lang/IndexOutOfBoundsException", 1)] from ⟨⟨by decide, by decide, wd1349, (List.mem_of_getElem? (i := 1) rfl), 13, Or.inl ⟨3, h12, by decide, rfl⟩, h13, h14⟩, by decide, trivial⟩) rfl h4 q_R_modulus wd1350 wd1351 wd1352 rfl (T := TX7) (N := 12) rfl) ?_
  refine ac (s_i2l (M := M_Lw_modulus) (pc := 7) h7) ?_
  refine ac (s_last (M := M_Lw_modulus) (pc := 8) h8) ?_
  refine ac (s_goto (M := M_Lw_modulus) (pc := 9) h9 (by decide)) ?_
  refine ac (s_astn (M := M_Lw_modulus) (pc := 12) (k := 3) h12 (by decide)) ?_
  refine ac (s_iconst (M := M_Lw_modulus) (pc := 13) h13 rfl) ?_
  refine ac (s_iret (M := M_Lw_modulus) (pc := 14) h14 rfl) ?_
  refine ac (s_iconst (M := M_Lw_modulus) (pc := 15) h15 rfl) ?_
  refine ac (s_iret (M := M_Lw_modulus) (pc := 16) h16 rfl) ?_
  exact ac_nil
theorem e0_Lw_inverse : decode method_7_code 0 = .ok (.aload_n 3, 1) ∧ decode method_7_code 1 = .ok (.iconst 0, 1) ∧ decode method_7_code 2 = .ok (.aload_n 0, 1) ∧ decode method_7_code 3 = .ok (.iload_n 1, 1) ∧ decode method_7_code 4 = .ok (.iload_n 2, 1) ∧ decode method_7_code 5 = .ok (.invokevirtual 27, 3) ∧ decode method_7_code 8 = .ok (.i2l, 1) ∧ decode method_7_code 9 = .ok (.lastore, 1) ∧ decode method_7_code 10 = .ok (.goto 7, 3) ∧ decode method_7_code 13 = .ok (.astore 4, 2) ∧ decode method_7_code 15 = .ok (.iconst 1, 1) ∧ decode method_7_code 16 = .ok (.ireturn, 1) := by decide +kernel
theorem e1_Lw_inverse : decode method_7_code 17 = .ok (.iconst 0, 1) ∧ decode method_7_code 18 = .ok (.ireturn, 1) := by decide +kernel
def T_Lw_inverse : TT := [(0, o_ald 3 1), (1, o_push (.int (iI (0))) 2), (2, o_ald 0 3), (3, o_ild 1 4), (4, o_ild 2 5), (5, o_callC M_R_inverse 0 3 1 34 [("java/lang/IndexOutOfBoundsException", 1)] 8), (8, o_i2l 9), (9, o_last 10), (10, o_goto 17), (13, o_ast 4 15), (15, o_push (.int (iI (1))) 16), (16, o_iret), (17, o_push (.int (iI (0))) 18), (18, o_iret)]
theorem k_Lw_inverse : ∀ x ∈ T_Lw_inverse, SO M_Lw_inverse x.1 x.2 := by
  obtain ⟨h0, h1, h2, h3, h4, h5, h8, h9, h10, h13, h15, h16⟩ := e0_Lw_inverse
  obtain ⟨h17, h18⟩ := e1_Lw_inverse
  refine ac (s_aldn (M := M_Lw_inverse) (pc := 0) (k := 3) h0) ?_
  refine ac (s_iconst (M := M_Lw_inverse) (pc := 1) h1 rfl) ?_
  refine ac (s_aldn (M := M_Lw_inverse) (pc := 2) (k := 0) h2) ?_
  refine ac (s_ildn (M := M_Lw_inverse) (pc := 3) (k := 1) h3) ?_
  refine ac (s_ildn (M := M_Lw_inverse) (pc := 4) (k := 2) h4) ?_
  refine ac (s_callC (M := M_Lw_inverse) (pc := 5) (mc1 := 1) (ms1 := 34) (hand := [("java/lang/IndexOutOfBoundsException", 1)]) (show HL M_Lw_inverse 5 (tabOf M_Lw_inverse.1) [("java/lang/IndexOutOfBoundsException", 1)] from ⟨⟨by decide, by decide, wd1349, (List.mem_of_getElem? (i := 1) rfl), 15, Or.inr ⟨4, h13, by decide, rfl⟩, h15, h16⟩, by decide, trivial⟩) rfl h5 q_R_inverse wd1376 wd1377 wd1378 rfl (T := TX7) (N := 12) rfl) ?_
  refine ac (s_i2l (M := M_Lw_inverse) (pc := 8) h8) ?_
  refine ac (s_last (M := M_Lw_inverse) (pc := 9) h9) ?_
  refine ac (s_goto (M := M_Lw_inverse) (pc := 10) h10 (by decide)) ?_
  refine ac (s_ast (M := M_Lw_inverse) (pc := 13) h13 (by decide)) ?_
  refine ac (s_iconst (M := M_Lw_inverse) (pc := 15) h15 rfl) ?_
  refine ac (s_iret (M := M_Lw_inverse) (pc := 16) h16 rfl) ?_
  refine ac (s_iconst (M := M_Lw_inverse) (pc := 17) h17 rfl) ?_
  refine ac (s_iret (M := M_Lw_inverse) (pc := 18) h18 rfl) ?_
  exact ac_nil
theorem e0_Lw_weight : decode method_8_code 0 = .ok (.aload_n 2, 1) ∧ decode method_8_code 1 = .ok (.iconst 0, 1) ∧ decode method_8_code 2 = .ok (.aload_n 0, 1) ∧ decode method_8_code 3 = .ok (.iload_n 1, 1) ∧ decode method_8_code 4 = .ok (.invokevirtual 31, 3) ∧ decode method_8_code 7 = .ok (.lastore, 1) ∧ decode method_8_code 8 = .ok (.goto 6, 3) ∧ decode method_8_code 11 = .ok (.astore_n 3, 1) ∧ decode method_8_code 12 = .ok (.iconst 1, 1) ∧ decode method_8_code 13 = .ok (.ireturn, 1) ∧ decode method_8_code 14 = .ok (.iconst 0, 1) ∧ decode method_8_code 15 = .ok (.ireturn, 1) := by decide +kernel
def T_Lw_weight : TT := [(0, o_ald 2 1), (1, o_push (.int (iI (0))) 2), (2, o_ald 0 3), (3, o_ild 1 4), (4, o_callC M_R_weight 0 2 1 34 [("java/lang/IndexOutOfBoundsException", 1)] 7), (7, o_last 8), (8, o_goto 14), (11, o_ast 3 12), (12, o_push (.int (iI (1))) 13), (13, o_iret), (14, o_push (.int (iI (0))) 15), (15, o_iret)]
theorem k_Lw_weight : ∀ x ∈ T_Lw_weight, SO M_Lw_weight x.1 x.2 := by
  obtain ⟨h0, h1, h2, h3, h4, h7, h8, h11, h12, h13, h14, h15⟩ := e0_Lw_weight
  refine ac (s_aldn (M := M_Lw_weight) (pc := 0) (k := 2) h0) ?_
  refine ac (s_iconst (M := M_Lw_weight) (pc := 1) h1 rfl) ?_
  refine ac (s_aldn (M := M_Lw_weight) (pc := 2) (k := 0) h2) ?_
  refine ac (s_ildn (M := M_Lw_weight) (pc := 3) (k := 1) h3) ?_
  refine ac (s_callC (M := M_Lw_weight) (pc := 4) (mc1 := 1) (ms1 := 34) (hand := [("java/lang/IndexOutOfBoundsException", 1)]) (show HL M_Lw_weight 4 (tabOf M_Lw_weight.1) [("java/lang/IndexOutOfBoundsException", 1)] from ⟨⟨by decide, by decide, wd1349, (List.mem_of_getElem? (i := 1) rfl), 12, Or.inl ⟨3, h11, by decide, rfl⟩, h12, h13⟩, by decide, trivial⟩) rfl h4 q_R_weight wd1384 wd1385 wd1386 rfl (T := TX7) (N := 12) rfl) ?_
  refine ac (s_last (M := M_Lw_weight) (pc := 7) h7) ?_
  refine ac (s_goto (M := M_Lw_weight) (pc := 8) h8 (by decide)) ?_
  refine ac (s_astn (M := M_Lw_weight) (pc := 11) (k := 3) h11 (by decide)) ?_
  refine ac (s_iconst (M := M_Lw_weight) (pc := 12) h12 rfl) ?_
  refine ac (s_iret (M := M_Lw_weight) (pc := 13) h13 rfl) ?_
  refine ac (s_iconst (M := M_Lw_weight) (pc := 14) h14 rfl) ?_
  refine ac (s_iret (M := M_Lw_weight) (pc := 15) h15 rfl) ?_
  exact ac_nil
theorem e0_Lw_rest : decode method_9_code 0 = .ok (.aload_n 3, 1) ∧ decode method_9_code 1 = .ok (.iconst 0, 1) ∧ decode method_9_code 2 = .ok (.aload_n 0, 1) ∧ decode method_9_code 3 = .ok (.iload_n 1, 1) ∧ decode method_9_code 4 = .ok (.iload_n 2, 1) ∧ decode method_9_code 5 = .ok (.invokevirtual 34, 3) ∧ decode method_9_code 8 = .ok (.i2l, 1) ∧ decode method_9_code 9 = .ok (.lastore, 1) ∧ decode method_9_code 10 = .ok (.goto 7, 3) ∧ decode method_9_code 13 = .ok (.astore 4, 2) ∧ decode method_9_code 15 = .ok (.iconst 1, 1) ∧ decode method_9_code 16 = .ok (.ireturn, 1) := by decide +kernel
theorem e1_Lw_rest : decode method_9_code 17 = .ok (.iconst 0, 1) ∧ decode method_9_code 18 = .ok (.ireturn, 1) := by decide +kernel
def T_Lw_rest : TT := [(0, o_ald 3 1), (1, o_push (.int (iI (0))) 2), (2, o_ald 0 3), (3, o_ild 1 4), (4, o_ild 2 5), (5, o_callC M_R_rest 0 3 1 34 [("java/lang/IndexOutOfBoundsException", 1)] 8), (8, o_i2l 9), (9, o_last 10), (10, o_goto 17), (13, o_ast 4 15), (15, o_push (.int (iI (1))) 16), (16, o_iret), (17, o_push (.int (iI (0))) 18), (18, o_iret)]
theorem k_Lw_rest : ∀ x ∈ T_Lw_rest, SO M_Lw_rest x.1 x.2 := by
  obtain ⟨h0, h1, h2, h3, h4, h5, h8, h9, h10, h13, h15, h16⟩ := e0_Lw_rest
  obtain ⟨h17, h18⟩ := e1_Lw_rest
  refine ac (s_aldn (M := M_Lw_rest) (pc := 0) (k := 3) h0) ?_
  refine ac (s_iconst (M := M_Lw_rest) (pc := 1) h1 rfl) ?_
  refine ac (s_aldn (M := M_Lw_rest) (pc := 2) (k := 0) h2) ?_
  refine ac (s_ildn (M := M_Lw_rest) (pc := 3) (k := 1) h3) ?_
  refine ac (s_ildn (M := M_Lw_rest) (pc := 4) (k := 2) h4) ?_
  refine ac (s_callC (M := M_Lw_rest) (pc := 5) (mc1 := 1) (ms1 := 34) (hand := [("java/lang/IndexOutOfBoundsException", 1)]) (show HL M_Lw_rest 5 (tabOf M_Lw_rest.1) [("java/lang/IndexOutOfBoundsException", 1)] from ⟨⟨by decide, by decide, wd1349, (List.mem_of_getElem? (i := 1) rfl), 15, Or.inr ⟨4, h13, by decide, rfl⟩, h15, h16⟩, by decide, trivial⟩) rfl h5 q_R_rest wd1392 wd1393 wd1394 rfl (T := TX7) (N := 12) rfl) ?_
  refine ac (s_i2l (M := M_Lw_rest) (pc := 8) h8) ?_
  refine ac (s_last (M := M_Lw_rest) (pc := 9) h9) ?_
  refine ac (s_goto (M := M_Lw_rest) (pc := 10) h10 (by decide)) ?_
  refine ac (s_ast (M := M_Lw_rest) (pc := 13) h13 (by decide)) ?_
  refine ac (s_iconst (M := M_Lw_rest) (pc := 15) h15 rfl) ?_
  refine ac (s_iret (M := M_Lw_rest) (pc := 16) h16 rfl) ?_
  refine ac (s_iconst (M := M_Lw_rest) (pc := 17) h17 rfl) ?_
  refine ac (s_iret (M := M_Lw_rest) (pc := 18) h18 rfl) ?_
  exact ac_nil
theorem e0_Lw_digit : decode method_10_code 0 = .ok (.aload_n 3, 1) ∧ decode method_10_code 1 = .ok (.iconst 0, 1) ∧ decode method_10_code 2 = .ok (.aload_n 0, 1) ∧ decode method_10_code 3 = .ok (.iload_n 1, 1) ∧ decode method_10_code 4 = .ok (.iload_n 2, 1) ∧ decode method_10_code 5 = .ok (.invokevirtual 37, 3) ∧ decode method_10_code 8 = .ok (.i2l, 1) ∧ decode method_10_code 9 = .ok (.lastore, 1) ∧ decode method_10_code 10 = .ok (.goto 7, 3) ∧ decode method_10_code 13 = .ok (.astore 4, 2) ∧ decode method_10_code 15 = .ok (.iconst 1, 1) ∧ decode method_10_code 16 = .ok (.ireturn, 1) := by decide +kernel
theorem e1_Lw_digit : decode method_10_code 17 = .ok (.iconst 0, 1) ∧ decode method_10_code 18 = .ok (.ireturn, 1) := by decide +kernel
def T_Lw_digit : TT := [(0, o_ald 3 1), (1, o_push (.int (iI (0))) 2), (2, o_ald 0 3), (3, o_ild 1 4), (4, o_ild 2 5), (5, o_callC M_R_digit 0 3 1 34 [("java/lang/IndexOutOfBoundsException", 1)] 8), (8, o_i2l 9), (9, o_last 10), (10, o_goto 17), (13, o_ast 4 15), (15, o_push (.int (iI (1))) 16), (16, o_iret), (17, o_push (.int (iI (0))) 18), (18, o_iret)]
theorem k_Lw_digit : ∀ x ∈ T_Lw_digit, SO M_Lw_digit x.1 x.2 := by
  obtain ⟨h0, h1, h2, h3, h4, h5, h8, h9, h10, h13, h15, h16⟩ := e0_Lw_digit
  obtain ⟨h17, h18⟩ := e1_Lw_digit
  refine ac (s_aldn (M := M_Lw_digit) (pc := 0) (k := 3) h0) ?_
  refine ac (s_iconst (M := M_Lw_digit) (pc := 1) h1 rfl) ?_
  refine ac (s_aldn (M := M_Lw_digit) (pc := 2) (k := 0) h2) ?_
  refine ac (s_ildn (M := M_Lw_digit) (pc := 3) (k := 1) h3) ?_
  refine ac (s_ildn (M := M_Lw_digit) (pc := 4) (k := 2) h4) ?_
  refine ac (s_callC (M := M_Lw_digit) (pc := 5) (mc1 := 1) (ms1 := 34) (hand := [("java/lang/IndexOutOfBoundsException", 1)]) (show HL M_Lw_digit 5 (tabOf M_Lw_digit.1) [("java/lang/IndexOutOfBoundsException", 1)] from ⟨⟨by decide, by decide, wd1349, (List.mem_of_getElem? (i := 1) rfl), 15, Or.inr ⟨4, h13, by decide, rfl⟩, h15, h16⟩, by decide, trivial⟩) rfl h5 q_R_digit wd1404 wd1405 wd1406 rfl (T := TX7) (N := 12) rfl) ?_
  refine ac (s_i2l (M := M_Lw_digit) (pc := 8) h8) ?_
  refine ac (s_last (M := M_Lw_digit) (pc := 9) h9) ?_
  refine ac (s_goto (M := M_Lw_digit) (pc := 10) h10 (by decide)) ?_
  refine ac (s_ast (M := M_Lw_digit) (pc := 13) h13 (by decide)) ?_
  refine ac (s_iconst (M := M_Lw_digit) (pc := 15) h15 rfl) ?_
  refine ac (s_iret (M := M_Lw_digit) (pc := 16) h16 rfl) ?_
  refine ac (s_iconst (M := M_Lw_digit) (pc := 17) h17 rfl) ?_
  refine ac (s_iret (M := M_Lw_digit) (pc := 18) h18 rfl) ?_
  exact ac_nil
theorem e0_Lw_part : decode method_11_code 0 = .ok (.aload_n 3, 1) ∧ decode method_11_code 1 = .ok (.iconst 0, 1) ∧ decode method_11_code 2 = .ok (.aload_n 0, 1) ∧ decode method_11_code 3 = .ok (.iload_n 1, 1) ∧ decode method_11_code 4 = .ok (.iload_n 2, 1) ∧ decode method_11_code 5 = .ok (.invokevirtual 40, 3) ∧ decode method_11_code 8 = .ok (.lastore, 1) ∧ decode method_11_code 9 = .ok (.goto 7, 3) ∧ decode method_11_code 12 = .ok (.astore 4, 2) ∧ decode method_11_code 14 = .ok (.iconst 1, 1) ∧ decode method_11_code 15 = .ok (.ireturn, 1) ∧ decode method_11_code 16 = .ok (.iconst 0, 1) := by decide +kernel
theorem e1_Lw_part : decode method_11_code 17 = .ok (.ireturn, 1) := by decide +kernel
def T_Lw_part : TT := [(0, o_ald 3 1), (1, o_push (.int (iI (0))) 2), (2, o_ald 0 3), (3, o_ild 1 4), (4, o_ild 2 5), (5, o_callC M_R_part 0 3 1 34 [("java/lang/IndexOutOfBoundsException", 1)] 8), (8, o_last 9), (9, o_goto 16), (12, o_ast 4 14), (14, o_push (.int (iI (1))) 15), (15, o_iret), (16, o_push (.int (iI (0))) 17), (17, o_iret)]
theorem k_Lw_part : ∀ x ∈ T_Lw_part, SO M_Lw_part x.1 x.2 := by
  obtain ⟨h0, h1, h2, h3, h4, h5, h8, h9, h12, h14, h15, h16⟩ := e0_Lw_part
  have h17 := e1_Lw_part
  refine ac (s_aldn (M := M_Lw_part) (pc := 0) (k := 3) h0) ?_
  refine ac (s_iconst (M := M_Lw_part) (pc := 1) h1 rfl) ?_
  refine ac (s_aldn (M := M_Lw_part) (pc := 2) (k := 0) h2) ?_
  refine ac (s_ildn (M := M_Lw_part) (pc := 3) (k := 1) h3) ?_
  refine ac (s_ildn (M := M_Lw_part) (pc := 4) (k := 2) h4) ?_
  refine ac (s_callC (M := M_Lw_part) (pc := 5) (mc1 := 1) (ms1 := 34) (hand := [("java/lang/IndexOutOfBoundsException", 1)]) (show HL M_Lw_part 5 (tabOf M_Lw_part.1) [("java/lang/IndexOutOfBoundsException", 1)] from ⟨⟨by decide, by decide, wd1349, (List.mem_of_getElem? (i := 1) rfl), 14, Or.inr ⟨4, h12, by decide, rfl⟩, h14, h15⟩, by decide, trivial⟩) rfl h5 q_R_part wd1412 wd1413 wd1414 rfl (T := TX7) (N := 12) rfl) ?_
  refine ac (s_last (M := M_Lw_part) (pc := 8) h8) ?_
  refine ac (s_goto (M := M_Lw_part) (pc := 9) h9 (by decide)) ?_
  refine ac (s_ast (M := M_Lw_part) (pc := 12) h12 (by decide)) ?_
  refine ac (s_iconst (M := M_Lw_part) (pc := 14) h14 rfl) ?_
  refine ac (s_iret (M := M_Lw_part) (pc := 15) h15 rfl) ?_
  refine ac (s_iconst (M := M_Lw_part) (pc := 16) h16 rfl) ?_
  refine ac (s_iret (M := M_Lw_part) (pc := 17) h17 rfl) ?_
  exact ac_nil
theorem e0_Lw_rank : decode method_12_code 0 = .ok (.aload_n 2, 1) ∧ decode method_12_code 1 = .ok (.iconst 0, 1) ∧ decode method_12_code 2 = .ok (.aload_n 0, 1) ∧ decode method_12_code 3 = .ok (.iload_n 1, 1) ∧ decode method_12_code 4 = .ok (.invokevirtual 44, 3) ∧ decode method_12_code 7 = .ok (.i2l, 1) ∧ decode method_12_code 8 = .ok (.lastore, 1) ∧ decode method_12_code 9 = .ok (.goto 6, 3) ∧ decode method_12_code 12 = .ok (.astore_n 3, 1) ∧ decode method_12_code 13 = .ok (.iconst 1, 1) ∧ decode method_12_code 14 = .ok (.ireturn, 1) ∧ decode method_12_code 15 = .ok (.iconst 0, 1) := by decide +kernel
theorem e1_Lw_rank : decode method_12_code 16 = .ok (.ireturn, 1) := by decide +kernel
def T_Lw_rank : TT := [(0, o_ald 2 1), (1, o_push (.int (iI (0))) 2), (2, o_ald 0 3), (3, o_ild 1 4), (4, o_callC M_R_rank 0 2 1 34 [("java/lang/IndexOutOfBoundsException", 1)] 7), (7, o_i2l 8), (8, o_last 9), (9, o_goto 15), (12, o_ast 3 13), (13, o_push (.int (iI (1))) 14), (14, o_iret), (15, o_push (.int (iI (0))) 16), (16, o_iret)]
theorem k_Lw_rank : ∀ x ∈ T_Lw_rank, SO M_Lw_rank x.1 x.2 := by
  obtain ⟨h0, h1, h2, h3, h4, h7, h8, h9, h12, h13, h14, h15⟩ := e0_Lw_rank
  have h16 := e1_Lw_rank
  refine ac (s_aldn (M := M_Lw_rank) (pc := 0) (k := 2) h0) ?_
  refine ac (s_iconst (M := M_Lw_rank) (pc := 1) h1 rfl) ?_
  refine ac (s_aldn (M := M_Lw_rank) (pc := 2) (k := 0) h2) ?_
  refine ac (s_ildn (M := M_Lw_rank) (pc := 3) (k := 1) h3) ?_
  refine ac (s_callC (M := M_Lw_rank) (pc := 4) (mc1 := 1) (ms1 := 34) (hand := [("java/lang/IndexOutOfBoundsException", 1)]) (show HL M_Lw_rank 4 (tabOf M_Lw_rank.1) [("java/lang/IndexOutOfBoundsException", 1)] from ⟨⟨by decide, by decide, wd1349, (List.mem_of_getElem? (i := 1) rfl), 13, Or.inl ⟨3, h12, by decide, rfl⟩, h13, h14⟩, by decide, trivial⟩) rfl h4 q_R_rank wd1420 wd1421 wd1422 rfl (T := TX7) (N := 12) rfl) ?_
  refine ac (s_i2l (M := M_Lw_rank) (pc := 7) h7) ?_
  refine ac (s_last (M := M_Lw_rank) (pc := 8) h8) ?_
  refine ac (s_goto (M := M_Lw_rank) (pc := 9) h9 (by decide)) ?_
  refine ac (s_astn (M := M_Lw_rank) (pc := 12) (k := 3) h12 (by decide)) ?_
  refine ac (s_iconst (M := M_Lw_rank) (pc := 13) h13 rfl) ?_
  refine ac (s_iret (M := M_Lw_rank) (pc := 14) h14 rfl) ?_
  refine ac (s_iconst (M := M_Lw_rank) (pc := 15) h15 rfl) ?_
  refine ac (s_iret (M := M_Lw_rank) (pc := 16) h16 rfl) ?_
  exact ac_nil
theorem e0_Lw_value : decode method_13_code 0 = .ok (.aload_n 2, 1) ∧ decode method_13_code 1 = .ok (.iconst 0, 1) ∧ decode method_13_code 2 = .ok (.aload_n 0, 1) ∧ decode method_13_code 3 = .ok (.iload_n 1, 1) ∧ decode method_13_code 4 = .ok (.invokevirtual 47, 3) ∧ decode method_13_code 7 = .ok (.lastore, 1) ∧ decode method_13_code 8 = .ok (.goto 6, 3) ∧ decode method_13_code 11 = .ok (.astore_n 3, 1) ∧ decode method_13_code 12 = .ok (.iconst 1, 1) ∧ decode method_13_code 13 = .ok (.ireturn, 1) ∧ decode method_13_code 14 = .ok (.iconst 0, 1) ∧ decode method_13_code 15 = .ok (.ireturn, 1) := by decide +kernel
def T_Lw_value : TT := [(0, o_ald 2 1), (1, o_push (.int (iI (0))) 2), (2, o_ald 0 3), (3, o_ild 1 4), (4, o_callC M_R_value 0 2 1 34 [("java/lang/IndexOutOfBoundsException", 1)] 7), (7, o_last 8), (8, o_goto 14), (11, o_ast 3 12), (12, o_push (.int (iI (1))) 13), (13, o_iret), (14, o_push (.int (iI (0))) 15), (15, o_iret)]
theorem k_Lw_value : ∀ x ∈ T_Lw_value, SO M_Lw_value x.1 x.2 := by
  obtain ⟨h0, h1, h2, h3, h4, h7, h8, h11, h12, h13, h14, h15⟩ := e0_Lw_value
  refine ac (s_aldn (M := M_Lw_value) (pc := 0) (k := 2) h0) ?_
  refine ac (s_iconst (M := M_Lw_value) (pc := 1) h1 rfl) ?_
  refine ac (s_aldn (M := M_Lw_value) (pc := 2) (k := 0) h2) ?_
  refine ac (s_ildn (M := M_Lw_value) (pc := 3) (k := 1) h3) ?_
  refine ac (s_callC (M := M_Lw_value) (pc := 4) (mc1 := 1) (ms1 := 34) (hand := [("java/lang/IndexOutOfBoundsException", 1)]) (show HL M_Lw_value 4 (tabOf M_Lw_value.1) [("java/lang/IndexOutOfBoundsException", 1)] from ⟨⟨by decide, by decide, wd1349, (List.mem_of_getElem? (i := 1) rfl), 12, Or.inl ⟨3, h11, by decide, rfl⟩, h12, h13⟩, by decide, trivial⟩) rfl h4 q_R_value wd1427 wd1428 wd1429 rfl (T := TX7) (N := 12) rfl) ?_
  refine ac (s_last (M := M_Lw_value) (pc := 7) h7) ?_
  refine ac (s_goto (M := M_Lw_value) (pc := 8) h8 (by decide)) ?_
  refine ac (s_astn (M := M_Lw_value) (pc := 11) (k := 3) h11 (by decide)) ?_
  refine ac (s_iconst (M := M_Lw_value) (pc := 12) h12 rfl) ?_
  refine ac (s_iret (M := M_Lw_value) (pc := 13) h13 rfl) ?_
  refine ac (s_iconst (M := M_Lw_value) (pc := 14) h14 rfl) ?_
  refine ac (s_iret (M := M_Lw_value) (pc := 15) h15 rfl) ?_
  exact ac_nil
theorem e0_Lw_number : decode method_14_code 0 = .ok (.aload_n 2, 1) ∧ decode method_14_code 1 = .ok (.iconst 0, 1) ∧ decode method_14_code 2 = .ok (.aload_n 0, 1) ∧ decode method_14_code 3 = .ok (.iload_n 1, 1) ∧ decode method_14_code 4 = .ok (.invokevirtual 50, 3) ∧ decode method_14_code 7 = .ok (.lastore, 1) ∧ decode method_14_code 8 = .ok (.goto 6, 3) ∧ decode method_14_code 11 = .ok (.astore_n 3, 1) ∧ decode method_14_code 12 = .ok (.iconst 1, 1) ∧ decode method_14_code 13 = .ok (.ireturn, 1) ∧ decode method_14_code 14 = .ok (.iconst 0, 1) ∧ decode method_14_code 15 = .ok (.ireturn, 1) := by decide +kernel
def T_Lw_number : TT := [(0, o_ald 2 1), (1, o_push (.int (iI (0))) 2), (2, o_ald 0 3), (3, o_ild 1 4), (4, o_callC M_R_number 0 2 1 34 [("java/lang/IndexOutOfBoundsException", 1)] 7), (7, o_last 8), (8, o_goto 14), (11, o_ast 3 12), (12, o_push (.int (iI (1))) 13), (13, o_iret), (14, o_push (.int (iI (0))) 15), (15, o_iret)]
theorem k_Lw_number : ∀ x ∈ T_Lw_number, SO M_Lw_number x.1 x.2 := by
  obtain ⟨h0, h1, h2, h3, h4, h7, h8, h11, h12, h13, h14, h15⟩ := e0_Lw_number
  refine ac (s_aldn (M := M_Lw_number) (pc := 0) (k := 2) h0) ?_
  refine ac (s_iconst (M := M_Lw_number) (pc := 1) h1 rfl) ?_
  refine ac (s_aldn (M := M_Lw_number) (pc := 2) (k := 0) h2) ?_
  refine ac (s_ildn (M := M_Lw_number) (pc := 3) (k := 1) h3) ?_
  refine ac (s_callC (M := M_Lw_number) (pc := 4) (mc1 := 1) (ms1 := 34) (hand := [("java/lang/IndexOutOfBoundsException", 1)]) (show HL M_Lw_number 4 (tabOf M_Lw_number.1) [("java/lang/IndexOutOfBoundsException", 1)] from ⟨⟨by decide, by decide, wd1349, (List.mem_of_getElem? (i := 1) rfl), 12, Or.inl ⟨3, h11, by decide, rfl⟩, h12, h13⟩, by decide, trivial⟩) rfl h4 q_R_number wd1435 wd1436 wd1437 rfl (T := TX7) (N := 12) rfl) ?_
  refine ac (s_last (M := M_Lw_number) (pc := 7) h7) ?_
  refine ac (s_goto (M := M_Lw_number) (pc := 8) h8 (by decide)) ?_
  refine ac (s_astn (M := M_Lw_number) (pc := 11) (k := 3) h11 (by decide)) ?_
  refine ac (s_iconst (M := M_Lw_number) (pc := 12) h12 rfl) ?_
  refine ac (s_iret (M := M_Lw_number) (pc := 13) h13 rfl) ?_
  refine ac (s_iconst (M := M_Lw_number) (pc := 14) h14 rfl) ?_
  refine ac (s_iret (M := M_Lw_number) (pc := 15) h15 rfl) ?_
  exact ac_nil
theorem e0_Lw_isSound : decode method_15_code 0 = .ok (.aload_n 2, 1) ∧ decode method_15_code 1 = .ok (.iconst 0, 1) ∧ decode method_15_code 2 = .ok (.aload_n 0, 1) ∧ decode method_15_code 3 = .ok (.iload_n 1, 1) ∧ decode method_15_code 4 = .ok (.invokevirtual 53, 3) ∧ decode method_15_code 7 = .ok (.ifCond .eq 7, 3) ∧ decode method_15_code 10 = .ok (.lconst 1, 1) ∧ decode method_15_code 11 = .ok (.goto 4, 3) ∧ decode method_15_code 14 = .ok (.lconst 0, 1) ∧ decode method_15_code 15 = .ok (.lastore, 1) ∧ decode method_15_code 16 = .ok (.goto 6, 3) ∧ decode method_15_code 19 = .ok (.astore_n 3, 1) := by decide +kernel
theorem e1_Lw_isSound : decode method_15_code 20 = .ok (.iconst 1, 1) ∧ decode method_15_code 21 = .ok (.ireturn, 1) ∧ decode method_15_code 22 = .ok (.iconst 0, 1) ∧ decode method_15_code 23 = .ok (.ireturn, 1) := by decide +kernel
def T_Lw_isSound : TT := [(0, o_ald 2 1), (1, o_push (.int (iI (0))) 2), (2, o_ald 0 3), (3, o_ild 1 4), (4, o_callC M_R_isSound 0 2 1 34 [("java/lang/IndexOutOfBoundsException", 1)] 7), (7, o_if_eq 14 10), (10, o_push (.long (lI 1)) 11), (11, o_goto 15), (14, o_push (.long (lI 0)) 15), (15, o_last 16), (16, o_goto 22), (19, o_ast 3 20), (20, o_push (.int (iI (1))) 21), (21, o_iret), (22, o_push (.int (iI (0))) 23), (23, o_iret)]
theorem k_Lw_isSound : ∀ x ∈ T_Lw_isSound, SO M_Lw_isSound x.1 x.2 := by
  obtain ⟨h0, h1, h2, h3, h4, h7, h10, h11, h14, h15, h16, h19⟩ := e0_Lw_isSound
  obtain ⟨h20, h21, h22, h23⟩ := e1_Lw_isSound
  refine ac (s_aldn (M := M_Lw_isSound) (pc := 0) (k := 2) h0) ?_
  refine ac (s_iconst (M := M_Lw_isSound) (pc := 1) h1 rfl) ?_
  refine ac (s_aldn (M := M_Lw_isSound) (pc := 2) (k := 0) h2) ?_
  refine ac (s_ildn (M := M_Lw_isSound) (pc := 3) (k := 1) h3) ?_
  refine ac (s_callC (M := M_Lw_isSound) (pc := 4) (mc1 := 1) (ms1 := 34) (hand := [("java/lang/IndexOutOfBoundsException", 1)]) (show HL M_Lw_isSound 4 (tabOf M_Lw_isSound.1) [("java/lang/IndexOutOfBoundsException", 1)] from ⟨⟨by decide, by decide, wd1349, (List.mem_of_getElem? (i := 1) rfl), 20, Or.inl ⟨3, h19, by decide, rfl⟩, h20, h21⟩, by decide, trivial⟩) rfl h4 q_R_isSound wd1442 wd1443 wd1444 rfl (T := TX7) (N := 12) rfl) ?_
  refine ac (s_if_eq (M := M_Lw_isSound) (pc := 7) h7 (by decide)) ?_
  refine ac (s_lconst (M := M_Lw_isSound) (pc := 10) h10 (by decide)) ?_
  refine ac (s_goto (M := M_Lw_isSound) (pc := 11) h11 (by decide)) ?_
  refine ac (s_lconst (M := M_Lw_isSound) (pc := 14) h14 (by decide)) ?_
  refine ac (s_last (M := M_Lw_isSound) (pc := 15) h15) ?_
  refine ac (s_goto (M := M_Lw_isSound) (pc := 16) h16 (by decide)) ?_
  refine ac (s_astn (M := M_Lw_isSound) (pc := 19) (k := 3) h19 (by decide)) ?_
  refine ac (s_iconst (M := M_Lw_isSound) (pc := 20) h20 rfl) ?_
  refine ac (s_iret (M := M_Lw_isSound) (pc := 21) h21 rfl) ?_
  refine ac (s_iconst (M := M_Lw_isSound) (pc := 22) h22 rfl) ?_
  refine ac (s_iret (M := M_Lw_isSound) (pc := 23) h23 rfl) ?_
  exact ac_nil
theorem e0_Lw_compare : decode method_16_code 0 = .ok (.aload_n 3, 1) ∧ decode method_16_code 1 = .ok (.iconst 0, 1) ∧ decode method_16_code 2 = .ok (.aload_n 0, 1) ∧ decode method_16_code 3 = .ok (.iload_n 1, 1) ∧ decode method_16_code 4 = .ok (.iload_n 2, 1) ∧ decode method_16_code 5 = .ok (.invokevirtual 57, 3) ∧ decode method_16_code 8 = .ok (.i2l, 1) ∧ decode method_16_code 9 = .ok (.lastore, 1) ∧ decode method_16_code 10 = .ok (.goto 7, 3) ∧ decode method_16_code 13 = .ok (.astore 4, 2) ∧ decode method_16_code 15 = .ok (.iconst 1, 1) ∧ decode method_16_code 16 = .ok (.ireturn, 1) := by decide +kernel
theorem e1_Lw_compare : decode method_16_code 17 = .ok (.iconst 0, 1) ∧ decode method_16_code 18 = .ok (.ireturn, 1) := by decide +kernel
def T_Lw_compare : TT := [(0, o_ald 3 1), (1, o_push (.int (iI (0))) 2), (2, o_ald 0 3), (3, o_ild 1 4), (4, o_ild 2 5), (5, o_callC M_R_compare 0 3 1 34 [("java/lang/IndexOutOfBoundsException", 1)] 8), (8, o_i2l 9), (9, o_last 10), (10, o_goto 17), (13, o_ast 4 15), (15, o_push (.int (iI (1))) 16), (16, o_iret), (17, o_push (.int (iI (0))) 18), (18, o_iret)]
theorem k_Lw_compare : ∀ x ∈ T_Lw_compare, SO M_Lw_compare x.1 x.2 := by
  obtain ⟨h0, h1, h2, h3, h4, h5, h8, h9, h10, h13, h15, h16⟩ := e0_Lw_compare
  obtain ⟨h17, h18⟩ := e1_Lw_compare
  refine ac (s_aldn (M := M_Lw_compare) (pc := 0) (k := 3) h0) ?_
  refine ac (s_iconst (M := M_Lw_compare) (pc := 1) h1 rfl) ?_
  refine ac (s_aldn (M := M_Lw_compare) (pc := 2) (k := 0) h2) ?_
  refine ac (s_ildn (M := M_Lw_compare) (pc := 3) (k := 1) h3) ?_
  refine ac (s_ildn (M := M_Lw_compare) (pc := 4) (k := 2) h4) ?_
  refine ac (s_callC (M := M_Lw_compare) (pc := 5) (mc1 := 1) (ms1 := 34) (hand := [("java/lang/IndexOutOfBoundsException", 1)]) (show HL M_Lw_compare 5 (tabOf M_Lw_compare.1) [("java/lang/IndexOutOfBoundsException", 1)] from ⟨⟨by decide, by decide, wd1349, (List.mem_of_getElem? (i := 1) rfl), 15, Or.inr ⟨4, h13, by decide, rfl⟩, h15, h16⟩, by decide, trivial⟩) rfl h5 q_R_compare wd1450 wd1451 wd1452 rfl (T := TX7) (N := 12) rfl) ?_
  refine ac (s_i2l (M := M_Lw_compare) (pc := 8) h8) ?_
  refine ac (s_last (M := M_Lw_compare) (pc := 9) h9) ?_
  refine ac (s_goto (M := M_Lw_compare) (pc := 10) h10 (by decide)) ?_
  refine ac (s_ast (M := M_Lw_compare) (pc := 13) h13 (by decide)) ?_
  refine ac (s_iconst (M := M_Lw_compare) (pc := 15) h15 rfl) ?_
  refine ac (s_iret (M := M_Lw_compare) (pc := 16) h16 rfl) ?_
  refine ac (s_iconst (M := M_Lw_compare) (pc := 17) h17 rfl) ?_
  refine ac (s_iret (M := M_Lw_compare) (pc := 18) h18 rfl) ?_
  exact ac_nil
theorem e0_Lw_extend : decode method_17_code 0 = .ok (.aload 4, 2) ∧ decode method_17_code 2 = .ok (.iconst 0, 1) ∧ decode method_17_code 3 = .ok (.aload_n 0, 1) ∧ decode method_17_code 4 = .ok (.iload_n 1, 1) ∧ decode method_17_code 5 = .ok (.iload_n 2, 1) ∧ decode method_17_code 6 = .ok (.iload_n 3, 1) ∧ decode method_17_code 7 = .ok (.invokevirtual 60, 3) ∧ decode method_17_code 10 = .ok (.i2l, 1) ∧ decode method_17_code 11 = .ok (.lastore, 1) ∧ decode method_17_code 12 = .ok (.goto 11, 3) ∧ decode method_17_code 15 = .ok (.astore 5, 2) ∧ decode method_17_code 17 = .ok (.iconst 1, 1) := by decide +kernel
theorem e1_Lw_extend : decode method_17_code 18 = .ok (.ireturn, 1) ∧ decode method_17_code 19 = .ok (.astore 5, 2) ∧ decode method_17_code 21 = .ok (.iconst 2, 1) ∧ decode method_17_code 22 = .ok (.ireturn, 1) ∧ decode method_17_code 23 = .ok (.iconst 0, 1) ∧ decode method_17_code 24 = .ok (.ireturn, 1) := by decide +kernel
def T_Lw_extend : TT := [(0, o_ald 4 2), (2, o_push (.int (iI (0))) 3), (3, o_ald 0 4), (4, o_ild 1 5), (5, o_ild 2 6), (6, o_ild 3 7), (7, o_callC M_R_extend 0 4 1 34 [("java/lang/IndexOutOfBoundsException", 1), ("java/lang/IllegalArgumentException", 2)] 10), (10, o_i2l 11), (11, o_last 12), (12, o_goto 23), (15, o_ast 5 17), (17, o_push (.int (iI (1))) 18), (18, o_iret), (19, o_ast 5 21), (21, o_push (.int (iI (2))) 22), (22, o_iret), (23, o_push (.int (iI (0))) 24), (24, o_iret)]
theorem k_Lw_extend : ∀ x ∈ T_Lw_extend, SO M_Lw_extend x.1 x.2 := by
  obtain ⟨h0, h2, h3, h4, h5, h6, h7, h10, h11, h12, h15, h17⟩ := e0_Lw_extend
  obtain ⟨h18, h19, h21, h22, h23, h24⟩ := e1_Lw_extend
  refine ac (s_ald (M := M_Lw_extend) (pc := 0) h0) ?_
  refine ac (s_iconst (M := M_Lw_extend) (pc := 2) h2 rfl) ?_
  refine ac (s_aldn (M := M_Lw_extend) (pc := 3) (k := 0) h3) ?_
  refine ac (s_ildn (M := M_Lw_extend) (pc := 4) (k := 1) h4) ?_
  refine ac (s_ildn (M := M_Lw_extend) (pc := 5) (k := 2) h5) ?_
  refine ac (s_ildn (M := M_Lw_extend) (pc := 6) (k := 3) h6) ?_
  refine ac (s_callC (M := M_Lw_extend) (pc := 7) (mc1 := 1) (ms1 := 34) (hand := [("java/lang/IndexOutOfBoundsException", 1), ("java/lang/IllegalArgumentException", 2)]) (show HL M_Lw_extend 7 (tabOf M_Lw_extend.1) [("java/lang/IndexOutOfBoundsException", 1), ("java/lang/IllegalArgumentException", 2)] from ⟨⟨by decide, by decide, wd1349, (List.mem_of_getElem? (i := 1) rfl), 17, Or.inr ⟨5, h15, by decide, rfl⟩, h17, h18⟩, by decide, ⟨⟨by decide, by decide, wd1300, (List.mem_of_getElem? (i := 0) rfl), 21, Or.inr ⟨5, h19, by decide, rfl⟩, h21, h22⟩, by decide, trivial⟩⟩) rfl h7 q_R_extend wd1461 wd1462 wd1463 rfl (T := TX7) (N := 12) rfl) ?_
  refine ac (s_i2l (M := M_Lw_extend) (pc := 10) h10) ?_
  refine ac (s_last (M := M_Lw_extend) (pc := 11) h11) ?_
  refine ac (s_goto (M := M_Lw_extend) (pc := 12) h12 (by decide)) ?_
  refine ac (s_ast (M := M_Lw_extend) (pc := 15) h15 (by decide)) ?_
  refine ac (s_iconst (M := M_Lw_extend) (pc := 17) h17 rfl) ?_
  refine ac (s_iret (M := M_Lw_extend) (pc := 18) h18 rfl) ?_
  refine ac (s_ast (M := M_Lw_extend) (pc := 19) h19 (by decide)) ?_
  refine ac (s_iconst (M := M_Lw_extend) (pc := 21) h21 rfl) ?_
  refine ac (s_iret (M := M_Lw_extend) (pc := 22) h22 rfl) ?_
  refine ac (s_iconst (M := M_Lw_extend) (pc := 23) h23 rfl) ?_
  refine ac (s_iret (M := M_Lw_extend) (pc := 24) h24 rfl) ?_
  exact ac_nil
theorem e0_Lw_distance : decode method_18_code 0 = .ok (.aload_n 3, 1) ∧ decode method_18_code 1 = .ok (.iconst 0, 1) ∧ decode method_18_code 2 = .ok (.aload_n 0, 1) ∧ decode method_18_code 3 = .ok (.iload_n 1, 1) ∧ decode method_18_code 4 = .ok (.iload_n 2, 1) ∧ decode method_18_code 5 = .ok (.invokevirtual 64, 3) ∧ decode method_18_code 8 = .ok (.i2l, 1) ∧ decode method_18_code 9 = .ok (.lastore, 1) ∧ decode method_18_code 10 = .ok (.goto 7, 3) ∧ decode method_18_code 13 = .ok (.astore 4, 2) ∧ decode method_18_code 15 = .ok (.iconst 1, 1) ∧ decode method_18_code 16 = .ok (.ireturn, 1) := by decide +kernel
theorem e1_Lw_distance : decode method_18_code 17 = .ok (.iconst 0, 1) ∧ decode method_18_code 18 = .ok (.ireturn, 1) := by decide +kernel
def T_Lw_distance : TT := [(0, o_ald 3 1), (1, o_push (.int (iI (0))) 2), (2, o_ald 0 3), (3, o_ild 1 4), (4, o_ild 2 5), (5, o_callC M_R_distance 0 3 1 34 [("java/lang/IndexOutOfBoundsException", 1)] 8), (8, o_i2l 9), (9, o_last 10), (10, o_goto 17), (13, o_ast 4 15), (15, o_push (.int (iI (1))) 16), (16, o_iret), (17, o_push (.int (iI (0))) 18), (18, o_iret)]
theorem k_Lw_distance : ∀ x ∈ T_Lw_distance, SO M_Lw_distance x.1 x.2 := by
  obtain ⟨h0, h1, h2, h3, h4, h5, h8, h9, h10, h13, h15, h16⟩ := e0_Lw_distance
  obtain ⟨h17, h18⟩ := e1_Lw_distance
  refine ac (s_aldn (M := M_Lw_distance) (pc := 0) (k := 3) h0) ?_
  refine ac (s_iconst (M := M_Lw_distance) (pc := 1) h1 rfl) ?_
  refine ac (s_aldn (M := M_Lw_distance) (pc := 2) (k := 0) h2) ?_
  refine ac (s_ildn (M := M_Lw_distance) (pc := 3) (k := 1) h3) ?_
  refine ac (s_ildn (M := M_Lw_distance) (pc := 4) (k := 2) h4) ?_
  refine ac (s_callC (M := M_Lw_distance) (pc := 5) (mc1 := 1) (ms1 := 34) (hand := [("java/lang/IndexOutOfBoundsException", 1)]) (show HL M_Lw_distance 5 (tabOf M_Lw_distance.1) [("java/lang/IndexOutOfBoundsException", 1)] from ⟨⟨by decide, by decide, wd1349, (List.mem_of_getElem? (i := 1) rfl), 15, Or.inr ⟨4, h13, by decide, rfl⟩, h15, h16⟩, by decide, trivial⟩) rfl h5 q_R_distance wd1468 wd1469 wd1470 rfl (T := TX7) (N := 12) rfl) ?_
  refine ac (s_i2l (M := M_Lw_distance) (pc := 8) h8) ?_
  refine ac (s_last (M := M_Lw_distance) (pc := 9) h9) ?_
  refine ac (s_goto (M := M_Lw_distance) (pc := 10) h10 (by decide)) ?_
  refine ac (s_ast (M := M_Lw_distance) (pc := 13) h13 (by decide)) ?_
  refine ac (s_iconst (M := M_Lw_distance) (pc := 15) h15 rfl) ?_
  refine ac (s_iret (M := M_Lw_distance) (pc := 16) h16 rfl) ?_
  refine ac (s_iconst (M := M_Lw_distance) (pc := 17) h17 rfl) ?_
  refine ac (s_iret (M := M_Lw_distance) (pc := 18) h18 rfl) ?_
  exact ac_nil
theorem e0_Lw_exact : decode method_19_code 0 = .ok (.aload 4, 2) ∧ decode method_19_code 2 = .ok (.iconst 0, 1) ∧ decode method_19_code 3 = .ok (.aload_n 0, 1) ∧ decode method_19_code 4 = .ok (.iload_n 1, 1) ∧ decode method_19_code 5 = .ok (.iload_n 2, 1) ∧ decode method_19_code 6 = .ok (.iload_n 3, 1) ∧ decode method_19_code 7 = .ok (.invokevirtual 67, 3) ∧ decode method_19_code 10 = .ok (.lastore, 1) ∧ decode method_19_code 11 = .ok (.goto 15, 3) ∧ decode method_19_code 14 = .ok (.astore 5, 2) ∧ decode method_19_code 16 = .ok (.iconst 1, 1) ∧ decode method_19_code 17 = .ok (.ireturn, 1) := by decide +kernel
theorem e1_Lw_exact : decode method_19_code 18 = .ok (.astore 5, 2) ∧ decode method_19_code 20 = .ok (.iconst 2, 1) ∧ decode method_19_code 21 = .ok (.ireturn, 1) ∧ decode method_19_code 22 = .ok (.astore 5, 2) ∧ decode method_19_code 24 = .ok (.iconst 3, 1) ∧ decode method_19_code 25 = .ok (.ireturn, 1) ∧ decode method_19_code 26 = .ok (.iconst 0, 1) ∧ decode method_19_code 27 = .ok (.ireturn, 1) := by decide +kernel
def T_Lw_exact : TT := [(0, o_ald 4 2), (2, o_push (.int (iI (0))) 3), (3, o_ald 0 4), (4, o_ild 1 5), (5, o_ild 2 6), (6, o_ild 3 7), (7, o_callC M_R_exact 0 4 1 34 [("java/lang/IllegalArgumentException", 1), ("java/lang/IndexOutOfBoundsException", 2), ("java/lang/IllegalStateException", 3)] 10), (10, o_last 11), (11, o_goto 26), (14, o_ast 5 16), (16, o_push (.int (iI (1))) 17), (17, o_iret), (18, o_ast 5 20), (20, o_push (.int (iI (2))) 21), (21, o_iret), (22, o_ast 5 24), (24, o_push (.int (iI (3))) 25), (25, o_iret), (26, o_push (.int (iI (0))) 27), (27, o_iret)]
theorem k_Lw_exact : ∀ x ∈ T_Lw_exact, SO M_Lw_exact x.1 x.2 := by
  obtain ⟨h0, h2, h3, h4, h5, h6, h7, h10, h11, h14, h16, h17⟩ := e0_Lw_exact
  obtain ⟨h18, h20, h21, h22, h24, h25, h26, h27⟩ := e1_Lw_exact
  refine ac (s_ald (M := M_Lw_exact) (pc := 0) h0) ?_
  refine ac (s_iconst (M := M_Lw_exact) (pc := 2) h2 rfl) ?_
  refine ac (s_aldn (M := M_Lw_exact) (pc := 3) (k := 0) h3) ?_
  refine ac (s_ildn (M := M_Lw_exact) (pc := 4) (k := 1) h4) ?_
  refine ac (s_ildn (M := M_Lw_exact) (pc := 5) (k := 2) h5) ?_
  refine ac (s_ildn (M := M_Lw_exact) (pc := 6) (k := 3) h6) ?_
  refine ac (s_callC (M := M_Lw_exact) (pc := 7) (mc1 := 1) (ms1 := 34) (hand := [("java/lang/IllegalArgumentException", 1), ("java/lang/IndexOutOfBoundsException", 2), ("java/lang/IllegalStateException", 3)]) (show HL M_Lw_exact 7 (tabOf M_Lw_exact.1) [("java/lang/IllegalArgumentException", 1), ("java/lang/IndexOutOfBoundsException", 2), ("java/lang/IllegalStateException", 3)] from ⟨⟨by decide, by decide, wd1300, (List.mem_of_getElem? (i := 0) rfl), 16, Or.inr ⟨5, h14, by decide, rfl⟩, h16, h17⟩, by decide, ⟨⟨by decide, by decide, wd1349, (List.mem_of_getElem? (i := 1) rfl), 20, Or.inr ⟨5, h18, by decide, rfl⟩, h20, h21⟩, by decide, ⟨⟨by decide, by decide, wd1479, (List.mem_of_getElem? (i := 2) rfl), 24, Or.inr ⟨5, h22, by decide, rfl⟩, h24, h25⟩, by decide, trivial⟩⟩⟩) rfl h7 q_R_exact wd1480 wd1481 wd1482 rfl (T := TX7) (N := 12) rfl) ?_
  refine ac (s_last (M := M_Lw_exact) (pc := 10) h10) ?_
  refine ac (s_goto (M := M_Lw_exact) (pc := 11) h11 (by decide)) ?_
  refine ac (s_ast (M := M_Lw_exact) (pc := 14) h14 (by decide)) ?_
  refine ac (s_iconst (M := M_Lw_exact) (pc := 16) h16 rfl) ?_
  refine ac (s_iret (M := M_Lw_exact) (pc := 17) h17 rfl) ?_
  refine ac (s_ast (M := M_Lw_exact) (pc := 18) h18 (by decide)) ?_
  refine ac (s_iconst (M := M_Lw_exact) (pc := 20) h20 rfl) ?_
  refine ac (s_iret (M := M_Lw_exact) (pc := 21) h21 rfl) ?_
  refine ac (s_ast (M := M_Lw_exact) (pc := 22) h22 (by decide)) ?_
  refine ac (s_iconst (M := M_Lw_exact) (pc := 24) h24 rfl) ?_
  refine ac (s_iret (M := M_Lw_exact) (pc := 25) h25 rfl) ?_
  refine ac (s_iconst (M := M_Lw_exact) (pc := 26) h26 rfl) ?_
  refine ac (s_iret (M := M_Lw_exact) (pc := 27) h27 rfl) ?_
  exact ac_nil
theorem e0_Lw_why : decode method_20_code 0 = .ok (.aload 4, 2) ∧ decode method_20_code 2 = .ok (.iconst 0, 1) ∧ decode method_20_code 3 = .ok (.aload_n 0, 1) ∧ decode method_20_code 4 = .ok (.iload_n 1, 1) ∧ decode method_20_code 5 = .ok (.iload_n 2, 1) ∧ decode method_20_code 6 = .ok (.iload_n 3, 1) ∧ decode method_20_code 7 = .ok (.invokevirtual 73, 3) ∧ decode method_20_code 10 = .ok (.i2l, 1) ∧ decode method_20_code 11 = .ok (.lastore, 1) ∧ decode method_20_code 12 = .ok (.goto 11, 3) ∧ decode method_20_code 15 = .ok (.astore 5, 2) ∧ decode method_20_code 17 = .ok (.iconst 1, 1) := by decide +kernel
theorem e1_Lw_why : decode method_20_code 18 = .ok (.ireturn, 1) ∧ decode method_20_code 19 = .ok (.astore 5, 2) ∧ decode method_20_code 21 = .ok (.iconst 2, 1) ∧ decode method_20_code 22 = .ok (.ireturn, 1) ∧ decode method_20_code 23 = .ok (.iconst 0, 1) ∧ decode method_20_code 24 = .ok (.ireturn, 1) := by decide +kernel
def T_Lw_why : TT := [(0, o_ald 4 2), (2, o_push (.int (iI (0))) 3), (3, o_ald 0 4), (4, o_ild 1 5), (5, o_ild 2 6), (6, o_ild 3 7), (7, o_callC M_R_why 0 4 1 34 [("java/lang/IllegalArgumentException", 1), ("java/lang/IndexOutOfBoundsException", 2)] 10), (10, o_i2l 11), (11, o_last 12), (12, o_goto 23), (15, o_ast 5 17), (17, o_push (.int (iI (1))) 18), (18, o_iret), (19, o_ast 5 21), (21, o_push (.int (iI (2))) 22), (22, o_iret), (23, o_push (.int (iI (0))) 24), (24, o_iret)]
theorem k_Lw_why : ∀ x ∈ T_Lw_why, SO M_Lw_why x.1 x.2 := by
  obtain ⟨h0, h2, h3, h4, h5, h6, h7, h10, h11, h12, h15, h17⟩ := e0_Lw_why
  obtain ⟨h18, h19, h21, h22, h23, h24⟩ := e1_Lw_why
  refine ac (s_ald (M := M_Lw_why) (pc := 0) h0) ?_
  refine ac (s_iconst (M := M_Lw_why) (pc := 2) h2 rfl) ?_
  refine ac (s_aldn (M := M_Lw_why) (pc := 3) (k := 0) h3) ?_
  refine ac (s_ildn (M := M_Lw_why) (pc := 4) (k := 1) h4) ?_
  refine ac (s_ildn (M := M_Lw_why) (pc := 5) (k := 2) h5) ?_
  refine ac (s_ildn (M := M_Lw_why) (pc := 6) (k := 3) h6) ?_
  refine ac (s_callC (M := M_Lw_why) (pc := 7) (mc1 := 1) (ms1 := 34) (hand := [("java/lang/IllegalArgumentException", 1), ("java/lang/IndexOutOfBoundsException", 2)]) (show HL M_Lw_why 7 (tabOf M_Lw_why.1) [("java/lang/IllegalArgumentException", 1), ("java/lang/IndexOutOfBoundsException", 2)] from ⟨⟨by decide, by decide, wd1300, (List.mem_of_getElem? (i := 0) rfl), 17, Or.inr ⟨5, h15, by decide, rfl⟩, h17, h18⟩, by decide, ⟨⟨by decide, by decide, wd1349, (List.mem_of_getElem? (i := 1) rfl), 21, Or.inr ⟨5, h19, by decide, rfl⟩, h21, h22⟩, by decide, trivial⟩⟩) rfl h7 q_R_why wd1508 wd1509 wd1510 rfl (T := TX7) (N := 12) rfl) ?_
  refine ac (s_i2l (M := M_Lw_why) (pc := 10) h10) ?_
  refine ac (s_last (M := M_Lw_why) (pc := 11) h11) ?_
  refine ac (s_goto (M := M_Lw_why) (pc := 12) h12 (by decide)) ?_
  refine ac (s_ast (M := M_Lw_why) (pc := 15) h15 (by decide)) ?_
  refine ac (s_iconst (M := M_Lw_why) (pc := 17) h17 rfl) ?_
  refine ac (s_iret (M := M_Lw_why) (pc := 18) h18 rfl) ?_
  refine ac (s_ast (M := M_Lw_why) (pc := 19) h19 (by decide)) ?_
  refine ac (s_iconst (M := M_Lw_why) (pc := 21) h21 rfl) ?_
  refine ac (s_iret (M := M_Lw_why) (pc := 22) h22 rfl) ?_
  refine ac (s_iconst (M := M_Lw_why) (pc := 23) h23 rfl) ?_
  refine ac (s_iret (M := M_Lw_why) (pc := 24) h24 rfl) ?_
  exact ac_nil
theorem e0_Lw_faults : decode method_21_code 0 = .ok (.aload_n 2, 1) ∧ decode method_21_code 1 = .ok (.iconst 0, 1) ∧ decode method_21_code 2 = .ok (.aload_n 0, 1) ∧ decode method_21_code 3 = .ok (.iload_n 1, 1) ∧ decode method_21_code 4 = .ok (.invokevirtual 77, 3) ∧ decode method_21_code 7 = .ok (.i2l, 1) ∧ decode method_21_code 8 = .ok (.lastore, 1) ∧ decode method_21_code 9 = .ok (.goto 6, 3) ∧ decode method_21_code 12 = .ok (.astore_n 3, 1) ∧ decode method_21_code 13 = .ok (.iconst 1, 1) ∧ decode method_21_code 14 = .ok (.ireturn, 1) ∧ decode method_21_code 15 = .ok (.iconst 0, 1) := by decide +kernel
theorem e1_Lw_faults : decode method_21_code 16 = .ok (.ireturn, 1) := by decide +kernel
def T_Lw_faults : TT := [(0, o_ald 2 1), (1, o_push (.int (iI (0))) 2), (2, o_ald 0 3), (3, o_ild 1 4), (4, o_callC M_R_faults 0 2 1 34 [("java/lang/IndexOutOfBoundsException", 1)] 7), (7, o_i2l 8), (8, o_last 9), (9, o_goto 15), (12, o_ast 3 13), (13, o_push (.int (iI (1))) 14), (14, o_iret), (15, o_push (.int (iI (0))) 16), (16, o_iret)]
theorem k_Lw_faults : ∀ x ∈ T_Lw_faults, SO M_Lw_faults x.1 x.2 := by
  obtain ⟨h0, h1, h2, h3, h4, h7, h8, h9, h12, h13, h14, h15⟩ := e0_Lw_faults
  have h16 := e1_Lw_faults
  refine ac (s_aldn (M := M_Lw_faults) (pc := 0) (k := 2) h0) ?_
  refine ac (s_iconst (M := M_Lw_faults) (pc := 1) h1 rfl) ?_
  refine ac (s_aldn (M := M_Lw_faults) (pc := 2) (k := 0) h2) ?_
  refine ac (s_ildn (M := M_Lw_faults) (pc := 3) (k := 1) h3) ?_
  refine ac (s_callC (M := M_Lw_faults) (pc := 4) (mc1 := 1) (ms1 := 34) (hand := [("java/lang/IndexOutOfBoundsException", 1)]) (show HL M_Lw_faults 4 (tabOf M_Lw_faults.1) [("java/lang/IndexOutOfBoundsException", 1)] from ⟨⟨by decide, by decide, wd1349, (List.mem_of_getElem? (i := 1) rfl), 13, Or.inl ⟨3, h12, by decide, rfl⟩, h13, h14⟩, by decide, trivial⟩) rfl h4 q_R_faults wd1517 wd1518 wd1519 rfl (T := TX7) (N := 12) rfl) ?_
  refine ac (s_i2l (M := M_Lw_faults) (pc := 7) h7) ?_
  refine ac (s_last (M := M_Lw_faults) (pc := 8) h8) ?_
  refine ac (s_goto (M := M_Lw_faults) (pc := 9) h9 (by decide)) ?_
  refine ac (s_astn (M := M_Lw_faults) (pc := 12) (k := 3) h12 (by decide)) ?_
  refine ac (s_iconst (M := M_Lw_faults) (pc := 13) h13 rfl) ?_
  refine ac (s_iret (M := M_Lw_faults) (pc := 14) h14 rfl) ?_
  refine ac (s_iconst (M := M_Lw_faults) (pc := 15) h15 rfl) ?_
  refine ac (s_iret (M := M_Lw_faults) (pc := 16) h16 rfl) ?_
  exact ac_nil
theorem e0_Lw_numberWith : decode method_22_code 0 = .ok (.aload 4, 2) ∧ decode method_22_code 2 = .ok (.iconst 0, 1) ∧ decode method_22_code 3 = .ok (.aload_n 0, 1) ∧ decode method_22_code 4 = .ok (.iload_n 1, 1) ∧ decode method_22_code 5 = .ok (.iload_n 2, 1) ∧ decode method_22_code 6 = .ok (.iload_n 3, 1) ∧ decode method_22_code 7 = .ok (.invokevirtual 80, 3) ∧ decode method_22_code 10 = .ok (.lastore, 1) ∧ decode method_22_code 11 = .ok (.goto 11, 3) ∧ decode method_22_code 14 = .ok (.astore 5, 2) ∧ decode method_22_code 16 = .ok (.iconst 1, 1) ∧ decode method_22_code 17 = .ok (.ireturn, 1) := by decide +kernel
theorem e1_Lw_numberWith : decode method_22_code 18 = .ok (.astore 5, 2) ∧ decode method_22_code 20 = .ok (.iconst 2, 1) ∧ decode method_22_code 21 = .ok (.ireturn, 1) ∧ decode method_22_code 22 = .ok (.iconst 0, 1) ∧ decode method_22_code 23 = .ok (.ireturn, 1) := by decide +kernel
def T_Lw_numberWith : TT := [(0, o_ald 4 2), (2, o_push (.int (iI (0))) 3), (3, o_ald 0 4), (4, o_ild 1 5), (5, o_ild 2 6), (6, o_ild 3 7), (7, o_callC M_R_numberWith 0 4 1 34 [("java/lang/IndexOutOfBoundsException", 1), ("java/lang/IllegalArgumentException", 2)] 10), (10, o_last 11), (11, o_goto 22), (14, o_ast 5 16), (16, o_push (.int (iI (1))) 17), (17, o_iret), (18, o_ast 5 20), (20, o_push (.int (iI (2))) 21), (21, o_iret), (22, o_push (.int (iI (0))) 23), (23, o_iret)]
theorem k_Lw_numberWith : ∀ x ∈ T_Lw_numberWith, SO M_Lw_numberWith x.1 x.2 := by
  obtain ⟨h0, h2, h3, h4, h5, h6, h7, h10, h11, h14, h16, h17⟩ := e0_Lw_numberWith
  obtain ⟨h18, h20, h21, h22, h23⟩ := e1_Lw_numberWith
  refine ac (s_ald (M := M_Lw_numberWith) (pc := 0) h0) ?_
  refine ac (s_iconst (M := M_Lw_numberWith) (pc := 2) h2 rfl) ?_
  refine ac (s_aldn (M := M_Lw_numberWith) (pc := 3) (k := 0) h3) ?_
  refine ac (s_ildn (M := M_Lw_numberWith) (pc := 4) (k := 1) h4) ?_
  refine ac (s_ildn (M := M_Lw_numberWith) (pc := 5) (k := 2) h5) ?_
  refine ac (s_ildn (M := M_Lw_numberWith) (pc := 6) (k := 3) h6) ?_
  refine ac (s_callC (M := M_Lw_numberWith) (pc := 7) (mc1 := 1) (ms1 := 34) (hand := [("java/lang/IndexOutOfBoundsException", 1), ("java/lang/IllegalArgumentException", 2)]) (show HL M_Lw_numberWith 7 (tabOf M_Lw_numberWith.1) [("java/lang/IndexOutOfBoundsException", 1), ("java/lang/IllegalArgumentException", 2)] from ⟨⟨by decide, by decide, wd1349, (List.mem_of_getElem? (i := 1) rfl), 16, Or.inr ⟨5, h14, by decide, rfl⟩, h16, h17⟩, by decide, ⟨⟨by decide, by decide, wd1300, (List.mem_of_getElem? (i := 0) rfl), 20, Or.inr ⟨5, h18, by decide, rfl⟩, h20, h21⟩, by decide, trivial⟩⟩) rfl h7 q_R_numberWith wd1528 wd1529 wd1530 rfl (T := TX7) (N := 12) rfl) ?_
  refine ac (s_last (M := M_Lw_numberWith) (pc := 10) h10) ?_
  refine ac (s_goto (M := M_Lw_numberWith) (pc := 11) h11 (by decide)) ?_
  refine ac (s_ast (M := M_Lw_numberWith) (pc := 14) h14 (by decide)) ?_
  refine ac (s_iconst (M := M_Lw_numberWith) (pc := 16) h16 rfl) ?_
  refine ac (s_iret (M := M_Lw_numberWith) (pc := 17) h17 rfl) ?_
  refine ac (s_ast (M := M_Lw_numberWith) (pc := 18) h18 (by decide)) ?_
  refine ac (s_iconst (M := M_Lw_numberWith) (pc := 20) h20 rfl) ?_
  refine ac (s_iret (M := M_Lw_numberWith) (pc := 21) h21 rfl) ?_
  refine ac (s_iconst (M := M_Lw_numberWith) (pc := 22) h22 rfl) ?_
  refine ac (s_iret (M := M_Lw_numberWith) (pc := 23) h23 rfl) ?_
  exact ac_nil
theorem e0_Lw_set : decode method_23_code 0 = .ok (.aload_n 3, 1) ∧ decode method_23_code 1 = .ok (.iconst 0, 1) ∧ decode method_23_code 2 = .ok (.aload_n 0, 1) ∧ decode method_23_code 3 = .ok (.iload_n 1, 1) ∧ decode method_23_code 4 = .ok (.iload_n 2, 1) ∧ decode method_23_code 5 = .ok (.invokevirtual 83, 3) ∧ decode method_23_code 8 = .ok (.i2l, 1) ∧ decode method_23_code 9 = .ok (.lastore, 1) ∧ decode method_23_code 10 = .ok (.goto 11, 3) ∧ decode method_23_code 13 = .ok (.astore 4, 2) ∧ decode method_23_code 15 = .ok (.iconst 1, 1) ∧ decode method_23_code 16 = .ok (.ireturn, 1) := by decide +kernel
theorem e1_Lw_set : decode method_23_code 17 = .ok (.astore 4, 2) ∧ decode method_23_code 19 = .ok (.iconst 2, 1) ∧ decode method_23_code 20 = .ok (.ireturn, 1) ∧ decode method_23_code 21 = .ok (.iconst 0, 1) ∧ decode method_23_code 22 = .ok (.ireturn, 1) := by decide +kernel
def T_Lw_set : TT := [(0, o_ald 3 1), (1, o_push (.int (iI (0))) 2), (2, o_ald 0 3), (3, o_ild 1 4), (4, o_ild 2 5), (5, o_callC M_R_set 0 3 1 34 [("java/lang/IndexOutOfBoundsException", 1), ("java/lang/IllegalArgumentException", 2)] 8), (8, o_i2l 9), (9, o_last 10), (10, o_goto 21), (13, o_ast 4 15), (15, o_push (.int (iI (1))) 16), (16, o_iret), (17, o_ast 4 19), (19, o_push (.int (iI (2))) 20), (20, o_iret), (21, o_push (.int (iI (0))) 22), (22, o_iret)]
theorem k_Lw_set : ∀ x ∈ T_Lw_set, SO M_Lw_set x.1 x.2 := by
  obtain ⟨h0, h1, h2, h3, h4, h5, h8, h9, h10, h13, h15, h16⟩ := e0_Lw_set
  obtain ⟨h17, h19, h20, h21, h22⟩ := e1_Lw_set
  refine ac (s_aldn (M := M_Lw_set) (pc := 0) (k := 3) h0) ?_
  refine ac (s_iconst (M := M_Lw_set) (pc := 1) h1 rfl) ?_
  refine ac (s_aldn (M := M_Lw_set) (pc := 2) (k := 0) h2) ?_
  refine ac (s_ildn (M := M_Lw_set) (pc := 3) (k := 1) h3) ?_
  refine ac (s_ildn (M := M_Lw_set) (pc := 4) (k := 2) h4) ?_
  refine ac (s_callC (M := M_Lw_set) (pc := 5) (mc1 := 1) (ms1 := 34) (hand := [("java/lang/IndexOutOfBoundsException", 1), ("java/lang/IllegalArgumentException", 2)]) (show HL M_Lw_set 5 (tabOf M_Lw_set.1) [("java/lang/IndexOutOfBoundsException", 1), ("java/lang/IllegalArgumentException", 2)] from ⟨⟨by decide, by decide, wd1349, (List.mem_of_getElem? (i := 1) rfl), 15, Or.inr ⟨4, h13, by decide, rfl⟩, h15, h16⟩, by decide, ⟨⟨by decide, by decide, wd1300, (List.mem_of_getElem? (i := 0) rfl), 19, Or.inr ⟨4, h17, by decide, rfl⟩, h19, h20⟩, by decide, trivial⟩⟩) rfl h5 q_R_set wd1540 wd1541 wd1542 rfl (T := TX7) (N := 12) rfl) ?_
  refine ac (s_i2l (M := M_Lw_set) (pc := 8) h8) ?_
  refine ac (s_last (M := M_Lw_set) (pc := 9) h9) ?_
  refine ac (s_goto (M := M_Lw_set) (pc := 10) h10 (by decide)) ?_
  refine ac (s_ast (M := M_Lw_set) (pc := 13) h13 (by decide)) ?_
  refine ac (s_iconst (M := M_Lw_set) (pc := 15) h15 rfl) ?_
  refine ac (s_iret (M := M_Lw_set) (pc := 16) h16 rfl) ?_
  refine ac (s_ast (M := M_Lw_set) (pc := 17) h17 (by decide)) ?_
  refine ac (s_iconst (M := M_Lw_set) (pc := 19) h19 rfl) ?_
  refine ac (s_iret (M := M_Lw_set) (pc := 20) h20 rfl) ?_
  refine ac (s_iconst (M := M_Lw_set) (pc := 21) h21 rfl) ?_
  refine ac (s_iret (M := M_Lw_set) (pc := 22) h22 rfl) ?_
  exact ac_nil
theorem e0_Lw_hurt : decode method_24_code 0 = .ok (.aload 4, 2) ∧ decode method_24_code 2 = .ok (.iconst 0, 1) ∧ decode method_24_code 3 = .ok (.aload_n 0, 1) ∧ decode method_24_code 4 = .ok (.iload_n 1, 1) ∧ decode method_24_code 5 = .ok (.iload_n 2, 1) ∧ decode method_24_code 6 = .ok (.iload_n 3, 1) ∧ decode method_24_code 7 = .ok (.invokevirtual 86, 3) ∧ decode method_24_code 10 = .ok (.i2l, 1) ∧ decode method_24_code 11 = .ok (.lastore, 1) ∧ decode method_24_code 12 = .ok (.goto 11, 3) ∧ decode method_24_code 15 = .ok (.astore 5, 2) ∧ decode method_24_code 17 = .ok (.iconst 1, 1) := by decide +kernel
theorem e1_Lw_hurt : decode method_24_code 18 = .ok (.ireturn, 1) ∧ decode method_24_code 19 = .ok (.astore 5, 2) ∧ decode method_24_code 21 = .ok (.iconst 2, 1) ∧ decode method_24_code 22 = .ok (.ireturn, 1) ∧ decode method_24_code 23 = .ok (.iconst 0, 1) ∧ decode method_24_code 24 = .ok (.ireturn, 1) := by decide +kernel
def T_Lw_hurt : TT := [(0, o_ald 4 2), (2, o_push (.int (iI (0))) 3), (3, o_ald 0 4), (4, o_ild 1 5), (5, o_ild 2 6), (6, o_ild 3 7), (7, o_callC M_R_hurt 0 4 1 34 [("java/lang/IndexOutOfBoundsException", 1), ("java/lang/IllegalArgumentException", 2)] 10), (10, o_i2l 11), (11, o_last 12), (12, o_goto 23), (15, o_ast 5 17), (17, o_push (.int (iI (1))) 18), (18, o_iret), (19, o_ast 5 21), (21, o_push (.int (iI (2))) 22), (22, o_iret), (23, o_push (.int (iI (0))) 24), (24, o_iret)]
theorem k_Lw_hurt : ∀ x ∈ T_Lw_hurt, SO M_Lw_hurt x.1 x.2 := by
  obtain ⟨h0, h2, h3, h4, h5, h6, h7, h10, h11, h12, h15, h17⟩ := e0_Lw_hurt
  obtain ⟨h18, h19, h21, h22, h23, h24⟩ := e1_Lw_hurt
  refine ac (s_ald (M := M_Lw_hurt) (pc := 0) h0) ?_
  refine ac (s_iconst (M := M_Lw_hurt) (pc := 2) h2 rfl) ?_
  refine ac (s_aldn (M := M_Lw_hurt) (pc := 3) (k := 0) h3) ?_
  refine ac (s_ildn (M := M_Lw_hurt) (pc := 4) (k := 1) h4) ?_
  refine ac (s_ildn (M := M_Lw_hurt) (pc := 5) (k := 2) h5) ?_
  refine ac (s_ildn (M := M_Lw_hurt) (pc := 6) (k := 3) h6) ?_
  refine ac (s_callC (M := M_Lw_hurt) (pc := 7) (mc1 := 1) (ms1 := 34) (hand := [("java/lang/IndexOutOfBoundsException", 1), ("java/lang/IllegalArgumentException", 2)]) (show HL M_Lw_hurt 7 (tabOf M_Lw_hurt.1) [("java/lang/IndexOutOfBoundsException", 1), ("java/lang/IllegalArgumentException", 2)] from ⟨⟨by decide, by decide, wd1349, (List.mem_of_getElem? (i := 1) rfl), 17, Or.inr ⟨5, h15, by decide, rfl⟩, h17, h18⟩, by decide, ⟨⟨by decide, by decide, wd1300, (List.mem_of_getElem? (i := 0) rfl), 21, Or.inr ⟨5, h19, by decide, rfl⟩, h21, h22⟩, by decide, trivial⟩⟩) rfl h7 q_R_hurt wd1558 wd1559 wd1560 rfl (T := TX7) (N := 12) rfl) ?_
  refine ac (s_i2l (M := M_Lw_hurt) (pc := 10) h10) ?_
  refine ac (s_last (M := M_Lw_hurt) (pc := 11) h11) ?_
  refine ac (s_goto (M := M_Lw_hurt) (pc := 12) h12 (by decide)) ?_
  refine ac (s_ast (M := M_Lw_hurt) (pc := 15) h15 (by decide)) ?_
  refine ac (s_iconst (M := M_Lw_hurt) (pc := 17) h17 rfl) ?_
  refine ac (s_iret (M := M_Lw_hurt) (pc := 18) h18 rfl) ?_
  refine ac (s_ast (M := M_Lw_hurt) (pc := 19) h19 (by decide)) ?_
  refine ac (s_iconst (M := M_Lw_hurt) (pc := 21) h21 rfl) ?_
  refine ac (s_iret (M := M_Lw_hurt) (pc := 22) h22 rfl) ?_
  refine ac (s_iconst (M := M_Lw_hurt) (pc := 23) h23 rfl) ?_
  refine ac (s_iret (M := M_Lw_hurt) (pc := 24) h24 rfl) ?_
  exact ac_nil
theorem e0_Lw_operate : decode method_25_code 0 = .ok (.aload 5, 2) ∧ decode method_25_code 2 = .ok (.iconst 0, 1) ∧ decode method_25_code 3 = .ok (.aload_n 0, 1) ∧ decode method_25_code 4 = .ok (.iload_n 1, 1) ∧ decode method_25_code 5 = .ok (.iload_n 2, 1) ∧ decode method_25_code 6 = .ok (.iload_n 3, 1) ∧ decode method_25_code 7 = .ok (.iload 4, 2) ∧ decode method_25_code 9 = .ok (.invokevirtual 89, 3) ∧ decode method_25_code 12 = .ok (.i2l, 1) ∧ decode method_25_code 13 = .ok (.lastore, 1) ∧ decode method_25_code 14 = .ok (.goto 11, 3) ∧ decode method_25_code 17 = .ok (.astore 6, 2) := by decide +kernel
theorem e1_Lw_operate : decode method_25_code 19 = .ok (.iconst 1, 1) ∧ decode method_25_code 20 = .ok (.ireturn, 1) ∧ decode method_25_code 21 = .ok (.astore 6, 2) ∧ decode method_25_code 23 = .ok (.iconst 2, 1) ∧ decode method_25_code 24 = .ok (.ireturn, 1) ∧ decode method_25_code 25 = .ok (.iconst 0, 1) ∧ decode method_25_code 26 = .ok (.ireturn, 1) := by decide +kernel
def T_Lw_operate : TT := [(0, o_ald 5 2), (2, o_push (.int (iI (0))) 3), (3, o_ald 0 4), (4, o_ild 1 5), (5, o_ild 2 6), (6, o_ild 3 7), (7, o_ild 4 9), (9, o_callC M_R_operate 0 5 1 34 [("java/lang/IllegalArgumentException", 1), ("java/lang/IndexOutOfBoundsException", 2)] 12), (12, o_i2l 13), (13, o_last 14), (14, o_goto 25), (17, o_ast 6 19), (19, o_push (.int (iI (1))) 20), (20, o_iret), (21, o_ast 6 23), (23, o_push (.int (iI (2))) 24), (24, o_iret), (25, o_push (.int (iI (0))) 26), (26, o_iret)]
theorem k_Lw_operate : ∀ x ∈ T_Lw_operate, SO M_Lw_operate x.1 x.2 := by
  obtain ⟨h0, h2, h3, h4, h5, h6, h7, h9, h12, h13, h14, h17⟩ := e0_Lw_operate
  obtain ⟨h19, h20, h21, h23, h24, h25, h26⟩ := e1_Lw_operate
  refine ac (s_ald (M := M_Lw_operate) (pc := 0) h0) ?_
  refine ac (s_iconst (M := M_Lw_operate) (pc := 2) h2 rfl) ?_
  refine ac (s_aldn (M := M_Lw_operate) (pc := 3) (k := 0) h3) ?_
  refine ac (s_ildn (M := M_Lw_operate) (pc := 4) (k := 1) h4) ?_
  refine ac (s_ildn (M := M_Lw_operate) (pc := 5) (k := 2) h5) ?_
  refine ac (s_ildn (M := M_Lw_operate) (pc := 6) (k := 3) h6) ?_
  refine ac (s_ild (M := M_Lw_operate) (pc := 7) h7) ?_
  refine ac (s_callC (M := M_Lw_operate) (pc := 9) (mc1 := 1) (ms1 := 34) (hand := [("java/lang/IllegalArgumentException", 1), ("java/lang/IndexOutOfBoundsException", 2)]) (show HL M_Lw_operate 9 (tabOf M_Lw_operate.1) [("java/lang/IllegalArgumentException", 1), ("java/lang/IndexOutOfBoundsException", 2)] from ⟨⟨by decide, by decide, wd1300, (List.mem_of_getElem? (i := 0) rfl), 19, Or.inr ⟨6, h17, by decide, rfl⟩, h19, h20⟩, by decide, ⟨⟨by decide, by decide, wd1349, (List.mem_of_getElem? (i := 1) rfl), 23, Or.inr ⟨6, h21, by decide, rfl⟩, h23, h24⟩, by decide, trivial⟩⟩) rfl h9 q_R_operate wd1566 wd1567 wd1568 rfl (T := TX7) (N := 12) rfl) ?_
  refine ac (s_i2l (M := M_Lw_operate) (pc := 12) h12) ?_
  refine ac (s_last (M := M_Lw_operate) (pc := 13) h13) ?_
  refine ac (s_goto (M := M_Lw_operate) (pc := 14) h14 (by decide)) ?_
  refine ac (s_ast (M := M_Lw_operate) (pc := 17) h17 (by decide)) ?_
  refine ac (s_iconst (M := M_Lw_operate) (pc := 19) h19 rfl) ?_
  refine ac (s_iret (M := M_Lw_operate) (pc := 20) h20 rfl) ?_
  refine ac (s_ast (M := M_Lw_operate) (pc := 21) h21 (by decide)) ?_
  refine ac (s_iconst (M := M_Lw_operate) (pc := 23) h23 rfl) ?_
  refine ac (s_iret (M := M_Lw_operate) (pc := 24) h24 rfl) ?_
  refine ac (s_iconst (M := M_Lw_operate) (pc := 25) h25 rfl) ?_
  refine ac (s_iret (M := M_Lw_operate) (pc := 26) h26 rfl) ?_
  exact ac_nil
theorem e0_Lw_scale : decode method_26_code 0 = .ok (.aload_n 3, 1) ∧ decode method_26_code 1 = .ok (.iconst 0, 1) ∧ decode method_26_code 2 = .ok (.aload_n 0, 1) ∧ decode method_26_code 3 = .ok (.iload_n 1, 1) ∧ decode method_26_code 4 = .ok (.iload_n 2, 1) ∧ decode method_26_code 5 = .ok (.invokevirtual 93, 3) ∧ decode method_26_code 8 = .ok (.i2l, 1) ∧ decode method_26_code 9 = .ok (.lastore, 1) ∧ decode method_26_code 10 = .ok (.goto 7, 3) ∧ decode method_26_code 13 = .ok (.astore 4, 2) ∧ decode method_26_code 15 = .ok (.iconst 1, 1) ∧ decode method_26_code 16 = .ok (.ireturn, 1) := by decide +kernel
theorem e1_Lw_scale : decode method_26_code 17 = .ok (.iconst 0, 1) ∧ decode method_26_code 18 = .ok (.ireturn, 1) := by decide +kernel
def T_Lw_scale : TT := [(0, o_ald 3 1), (1, o_push (.int (iI (0))) 2), (2, o_ald 0 3), (3, o_ild 1 4), (4, o_ild 2 5), (5, o_callC M_R_scale 0 3 1 34 [("java/lang/IndexOutOfBoundsException", 1)] 8), (8, o_i2l 9), (9, o_last 10), (10, o_goto 17), (13, o_ast 4 15), (15, o_push (.int (iI (1))) 16), (16, o_iret), (17, o_push (.int (iI (0))) 18), (18, o_iret)]
theorem k_Lw_scale : ∀ x ∈ T_Lw_scale, SO M_Lw_scale x.1 x.2 := by
  obtain ⟨h0, h1, h2, h3, h4, h5, h8, h9, h10, h13, h15, h16⟩ := e0_Lw_scale
  obtain ⟨h17, h18⟩ := e1_Lw_scale
  refine ac (s_aldn (M := M_Lw_scale) (pc := 0) (k := 3) h0) ?_
  refine ac (s_iconst (M := M_Lw_scale) (pc := 1) h1 rfl) ?_
  refine ac (s_aldn (M := M_Lw_scale) (pc := 2) (k := 0) h2) ?_
  refine ac (s_ildn (M := M_Lw_scale) (pc := 3) (k := 1) h3) ?_
  refine ac (s_ildn (M := M_Lw_scale) (pc := 4) (k := 2) h4) ?_
  refine ac (s_callC (M := M_Lw_scale) (pc := 5) (mc1 := 1) (ms1 := 34) (hand := [("java/lang/IndexOutOfBoundsException", 1)]) (show HL M_Lw_scale 5 (tabOf M_Lw_scale.1) [("java/lang/IndexOutOfBoundsException", 1)] from ⟨⟨by decide, by decide, wd1349, (List.mem_of_getElem? (i := 1) rfl), 15, Or.inr ⟨4, h13, by decide, rfl⟩, h15, h16⟩, by decide, trivial⟩) rfl h5 q_R_scale wd1578 wd1579 wd1580 rfl (T := TX7) (N := 12) rfl) ?_
  refine ac (s_i2l (M := M_Lw_scale) (pc := 8) h8) ?_
  refine ac (s_last (M := M_Lw_scale) (pc := 9) h9) ?_
  refine ac (s_goto (M := M_Lw_scale) (pc := 10) h10 (by decide)) ?_
  refine ac (s_ast (M := M_Lw_scale) (pc := 13) h13 (by decide)) ?_
  refine ac (s_iconst (M := M_Lw_scale) (pc := 15) h15 rfl) ?_
  refine ac (s_iret (M := M_Lw_scale) (pc := 16) h16 rfl) ?_
  refine ac (s_iconst (M := M_Lw_scale) (pc := 17) h17 rfl) ?_
  refine ac (s_iret (M := M_Lw_scale) (pc := 18) h18 rfl) ?_
  exact ac_nil
theorem e0_Lw_mend : decode method_27_code 0 = .ok (.aload_n 2, 1) ∧ decode method_27_code 1 = .ok (.iconst 0, 1) ∧ decode method_27_code 2 = .ok (.aload_n 0, 1) ∧ decode method_27_code 3 = .ok (.iload_n 1, 1) ∧ decode method_27_code 4 = .ok (.invokevirtual 96, 3) ∧ decode method_27_code 7 = .ok (.i2l, 1) ∧ decode method_27_code 8 = .ok (.lastore, 1) ∧ decode method_27_code 9 = .ok (.goto 6, 3) ∧ decode method_27_code 12 = .ok (.astore_n 3, 1) ∧ decode method_27_code 13 = .ok (.iconst 1, 1) ∧ decode method_27_code 14 = .ok (.ireturn, 1) ∧ decode method_27_code 15 = .ok (.iconst 0, 1) := by decide +kernel
theorem e1_Lw_mend : decode method_27_code 16 = .ok (.ireturn, 1) := by decide +kernel
def T_Lw_mend : TT := [(0, o_ald 2 1), (1, o_push (.int (iI (0))) 2), (2, o_ald 0 3), (3, o_ild 1 4), (4, o_callC M_R_mend 0 2 1 34 [("java/lang/IndexOutOfBoundsException", 1)] 7), (7, o_i2l 8), (8, o_last 9), (9, o_goto 15), (12, o_ast 3 13), (13, o_push (.int (iI (1))) 14), (14, o_iret), (15, o_push (.int (iI (0))) 16), (16, o_iret)]
theorem k_Lw_mend : ∀ x ∈ T_Lw_mend, SO M_Lw_mend x.1 x.2 := by
  obtain ⟨h0, h1, h2, h3, h4, h7, h8, h9, h12, h13, h14, h15⟩ := e0_Lw_mend
  have h16 := e1_Lw_mend
  refine ac (s_aldn (M := M_Lw_mend) (pc := 0) (k := 2) h0) ?_
  refine ac (s_iconst (M := M_Lw_mend) (pc := 1) h1 rfl) ?_
  refine ac (s_aldn (M := M_Lw_mend) (pc := 2) (k := 0) h2) ?_
  refine ac (s_ildn (M := M_Lw_mend) (pc := 3) (k := 1) h3) ?_
  refine ac (s_callC (M := M_Lw_mend) (pc := 4) (mc1 := 1) (ms1 := 34) (hand := [("java/lang/IndexOutOfBoundsException", 1)]) (show HL M_Lw_mend 4 (tabOf M_Lw_mend.1) [("java/lang/IndexOutOfBoundsException", 1)] from ⟨⟨by decide, by decide, wd1349, (List.mem_of_getElem? (i := 1) rfl), 13, Or.inl ⟨3, h12, by decide, rfl⟩, h13, h14⟩, by decide, trivial⟩) rfl h4 q_R_mend wd1586 wd1587 wd1588 rfl (T := TX7) (N := 12) rfl) ?_
  refine ac (s_i2l (M := M_Lw_mend) (pc := 7) h7) ?_
  refine ac (s_last (M := M_Lw_mend) (pc := 8) h8) ?_
  refine ac (s_goto (M := M_Lw_mend) (pc := 9) h9 (by decide)) ?_
  refine ac (s_astn (M := M_Lw_mend) (pc := 12) (k := 3) h12 (by decide)) ?_
  refine ac (s_iconst (M := M_Lw_mend) (pc := 13) h13 rfl) ?_
  refine ac (s_iret (M := M_Lw_mend) (pc := 14) h14 rfl) ?_
  refine ac (s_iconst (M := M_Lw_mend) (pc := 15) h15 rfl) ?_
  refine ac (s_iret (M := M_Lw_mend) (pc := 16) h16 rfl) ?_
  exact ac_nil
theorem e0_Lw_swap : decode method_28_code 0 = .ok (.aload_n 3, 1) ∧ decode method_28_code 1 = .ok (.iconst 0, 1) ∧ decode method_28_code 2 = .ok (.aload_n 0, 1) ∧ decode method_28_code 3 = .ok (.iload_n 1, 1) ∧ decode method_28_code 4 = .ok (.iload_n 2, 1) ∧ decode method_28_code 5 = .ok (.invokevirtual 99, 3) ∧ decode method_28_code 8 = .ok (.i2l, 1) ∧ decode method_28_code 9 = .ok (.lastore, 1) ∧ decode method_28_code 10 = .ok (.goto 7, 3) ∧ decode method_28_code 13 = .ok (.astore 4, 2) ∧ decode method_28_code 15 = .ok (.iconst 1, 1) ∧ decode method_28_code 16 = .ok (.ireturn, 1) := by decide +kernel
theorem e1_Lw_swap : decode method_28_code 17 = .ok (.iconst 0, 1) ∧ decode method_28_code 18 = .ok (.ireturn, 1) := by decide +kernel
def T_Lw_swap : TT := [(0, o_ald 3 1), (1, o_push (.int (iI (0))) 2), (2, o_ald 0 3), (3, o_ild 1 4), (4, o_ild 2 5), (5, o_callC M_R_swap 0 3 1 34 [("java/lang/IndexOutOfBoundsException", 1)] 8), (8, o_i2l 9), (9, o_last 10), (10, o_goto 17), (13, o_ast 4 15), (15, o_push (.int (iI (1))) 16), (16, o_iret), (17, o_push (.int (iI (0))) 18), (18, o_iret)]
theorem k_Lw_swap : ∀ x ∈ T_Lw_swap, SO M_Lw_swap x.1 x.2 := by
  obtain ⟨h0, h1, h2, h3, h4, h5, h8, h9, h10, h13, h15, h16⟩ := e0_Lw_swap
  obtain ⟨h17, h18⟩ := e1_Lw_swap
  refine ac (s_aldn (M := M_Lw_swap) (pc := 0) (k := 3) h0) ?_
  refine ac (s_iconst (M := M_Lw_swap) (pc := 1) h1 rfl) ?_
  refine ac (s_aldn (M := M_Lw_swap) (pc := 2) (k := 0) h2) ?_
  refine ac (s_ildn (M := M_Lw_swap) (pc := 3) (k := 1) h3) ?_
  refine ac (s_ildn (M := M_Lw_swap) (pc := 4) (k := 2) h4) ?_
  refine ac (s_callC (M := M_Lw_swap) (pc := 5) (mc1 := 1) (ms1 := 34) (hand := [("java/lang/IndexOutOfBoundsException", 1)]) (show HL M_Lw_swap 5 (tabOf M_Lw_swap.1) [("java/lang/IndexOutOfBoundsException", 1)] from ⟨⟨by decide, by decide, wd1349, (List.mem_of_getElem? (i := 1) rfl), 15, Or.inr ⟨4, h13, by decide, rfl⟩, h15, h16⟩, by decide, trivial⟩) rfl h5 q_R_swap wd1594 wd1595 wd1596 rfl (T := TX7) (N := 12) rfl) ?_
  refine ac (s_i2l (M := M_Lw_swap) (pc := 8) h8) ?_
  refine ac (s_last (M := M_Lw_swap) (pc := 9) h9) ?_
  refine ac (s_goto (M := M_Lw_swap) (pc := 10) h10 (by decide)) ?_
  refine ac (s_ast (M := M_Lw_swap) (pc := 13) h13 (by decide)) ?_
  refine ac (s_iconst (M := M_Lw_swap) (pc := 15) h15 rfl) ?_
  refine ac (s_iret (M := M_Lw_swap) (pc := 16) h16 rfl) ?_
  refine ac (s_iconst (M := M_Lw_swap) (pc := 17) h17 rfl) ?_
  refine ac (s_iret (M := M_Lw_swap) (pc := 18) h18 rfl) ?_
  exact ac_nil
theorem e0_Lw_grow : decode method_29_code 0 = .ok (.aload_n 2, 1) ∧ decode method_29_code 1 = .ok (.iconst 0, 1) ∧ decode method_29_code 2 = .ok (.aload_n 0, 1) ∧ decode method_29_code 3 = .ok (.iload_n 1, 1) ∧ decode method_29_code 4 = .ok (.invokevirtual 102, 3) ∧ decode method_29_code 7 = .ok (.i2l, 1) ∧ decode method_29_code 8 = .ok (.lastore, 1) ∧ decode method_29_code 9 = .ok (.goto 6, 3) ∧ decode method_29_code 12 = .ok (.astore_n 3, 1) ∧ decode method_29_code 13 = .ok (.iconst 1, 1) ∧ decode method_29_code 14 = .ok (.ireturn, 1) ∧ decode method_29_code 15 = .ok (.iconst 0, 1) := by decide +kernel
theorem e1_Lw_grow : decode method_29_code 16 = .ok (.ireturn, 1) := by decide +kernel
def T_Lw_grow : TT := [(0, o_ald 2 1), (1, o_push (.int (iI (0))) 2), (2, o_ald 0 3), (3, o_ild 1 4), (4, o_callC M_R_grow 0 2 1 34 [("java/lang/IllegalArgumentException", 1)] 7), (7, o_i2l 8), (8, o_last 9), (9, o_goto 15), (12, o_ast 3 13), (13, o_push (.int (iI (1))) 14), (14, o_iret), (15, o_push (.int (iI (0))) 16), (16, o_iret)]
theorem k_Lw_grow : ∀ x ∈ T_Lw_grow, SO M_Lw_grow x.1 x.2 := by
  obtain ⟨h0, h1, h2, h3, h4, h7, h8, h9, h12, h13, h14, h15⟩ := e0_Lw_grow
  have h16 := e1_Lw_grow
  refine ac (s_aldn (M := M_Lw_grow) (pc := 0) (k := 2) h0) ?_
  refine ac (s_iconst (M := M_Lw_grow) (pc := 1) h1 rfl) ?_
  refine ac (s_aldn (M := M_Lw_grow) (pc := 2) (k := 0) h2) ?_
  refine ac (s_ildn (M := M_Lw_grow) (pc := 3) (k := 1) h3) ?_
  refine ac (s_callC (M := M_Lw_grow) (pc := 4) (mc1 := 1) (ms1 := 34) (hand := [("java/lang/IllegalArgumentException", 1)]) (show HL M_Lw_grow 4 (tabOf M_Lw_grow.1) [("java/lang/IllegalArgumentException", 1)] from ⟨⟨by decide, by decide, wd1300, (List.mem_of_getElem? (i := 0) rfl), 13, Or.inl ⟨3, h12, by decide, rfl⟩, h13, h14⟩, by decide, trivial⟩) rfl h4 q_R_grow wd1602 wd1603 wd1604 rfl (T := TX7) (N := 12) rfl) ?_
  refine ac (s_i2l (M := M_Lw_grow) (pc := 7) h7) ?_
  refine ac (s_last (M := M_Lw_grow) (pc := 8) h8) ?_
  refine ac (s_goto (M := M_Lw_grow) (pc := 9) h9 (by decide)) ?_
  refine ac (s_astn (M := M_Lw_grow) (pc := 12) (k := 3) h12 (by decide)) ?_
  refine ac (s_iconst (M := M_Lw_grow) (pc := 13) h13 rfl) ?_
  refine ac (s_iret (M := M_Lw_grow) (pc := 14) h14 rfl) ?_
  refine ac (s_iconst (M := M_Lw_grow) (pc := 15) h15 rfl) ?_
  refine ac (s_iret (M := M_Lw_grow) (pc := 16) h16 rfl) ?_
  exact ac_nil
theorem e0_Lw_drop : decode method_30_code 0 = .ok (.aload_n 2, 1) ∧ decode method_30_code 1 = .ok (.iconst 0, 1) ∧ decode method_30_code 2 = .ok (.aload_n 0, 1) ∧ decode method_30_code 3 = .ok (.iload_n 1, 1) ∧ decode method_30_code 4 = .ok (.invokevirtual 105, 3) ∧ decode method_30_code 7 = .ok (.i2l, 1) ∧ decode method_30_code 8 = .ok (.lastore, 1) ∧ decode method_30_code 9 = .ok (.goto 6, 3) ∧ decode method_30_code 12 = .ok (.astore_n 3, 1) ∧ decode method_30_code 13 = .ok (.iconst 1, 1) ∧ decode method_30_code 14 = .ok (.ireturn, 1) ∧ decode method_30_code 15 = .ok (.iconst 0, 1) := by decide +kernel
theorem e1_Lw_drop : decode method_30_code 16 = .ok (.ireturn, 1) := by decide +kernel
def T_Lw_drop : TT := [(0, o_ald 2 1), (1, o_push (.int (iI (0))) 2), (2, o_ald 0 3), (3, o_ild 1 4), (4, o_callC M_R_drop 0 2 1 34 [("java/lang/IndexOutOfBoundsException", 1)] 7), (7, o_i2l 8), (8, o_last 9), (9, o_goto 15), (12, o_ast 3 13), (13, o_push (.int (iI (1))) 14), (14, o_iret), (15, o_push (.int (iI (0))) 16), (16, o_iret)]
theorem k_Lw_drop : ∀ x ∈ T_Lw_drop, SO M_Lw_drop x.1 x.2 := by
  obtain ⟨h0, h1, h2, h3, h4, h7, h8, h9, h12, h13, h14, h15⟩ := e0_Lw_drop
  have h16 := e1_Lw_drop
  refine ac (s_aldn (M := M_Lw_drop) (pc := 0) (k := 2) h0) ?_
  refine ac (s_iconst (M := M_Lw_drop) (pc := 1) h1 rfl) ?_
  refine ac (s_aldn (M := M_Lw_drop) (pc := 2) (k := 0) h2) ?_
  refine ac (s_ildn (M := M_Lw_drop) (pc := 3) (k := 1) h3) ?_
  refine ac (s_callC (M := M_Lw_drop) (pc := 4) (mc1 := 1) (ms1 := 34) (hand := [("java/lang/IndexOutOfBoundsException", 1)]) (show HL M_Lw_drop 4 (tabOf M_Lw_drop.1) [("java/lang/IndexOutOfBoundsException", 1)] from ⟨⟨by decide, by decide, wd1349, (List.mem_of_getElem? (i := 1) rfl), 13, Or.inl ⟨3, h12, by decide, rfl⟩, h13, h14⟩, by decide, trivial⟩) rfl h4 q_R_drop wd1615 wd1616 wd1617 rfl (T := TX7) (N := 12) rfl) ?_
  refine ac (s_i2l (M := M_Lw_drop) (pc := 7) h7) ?_
  refine ac (s_last (M := M_Lw_drop) (pc := 8) h8) ?_
  refine ac (s_goto (M := M_Lw_drop) (pc := 9) h9 (by decide)) ?_
  refine ac (s_astn (M := M_Lw_drop) (pc := 12) (k := 3) h12 (by decide)) ?_
  refine ac (s_iconst (M := M_Lw_drop) (pc := 13) h13 rfl) ?_
  refine ac (s_iret (M := M_Lw_drop) (pc := 14) h14 rfl) ?_
  refine ac (s_iconst (M := M_Lw_drop) (pc := 15) h15 rfl) ?_
  refine ac (s_iret (M := M_Lw_drop) (pc := 16) h16 rfl) ?_
  exact ac_nil
theorem e0_Lw_setStrict : decode method_31_code 0 = .ok (.aload_n 2, 1) ∧ decode method_31_code 1 = .ok (.iconst 0, 1) ∧ decode method_31_code 2 = .ok (.aload_n 0, 1) ∧ decode method_31_code 3 = .ok (.iload_n 1, 1) ∧ decode method_31_code 4 = .ok (.invokevirtual 108, 3) ∧ decode method_31_code 7 = .ok (.i2l, 1) ∧ decode method_31_code 8 = .ok (.lastore, 1) ∧ decode method_31_code 9 = .ok (.goto 6, 3) ∧ decode method_31_code 12 = .ok (.astore_n 3, 1) ∧ decode method_31_code 13 = .ok (.iconst 1, 1) ∧ decode method_31_code 14 = .ok (.ireturn, 1) ∧ decode method_31_code 15 = .ok (.iconst 0, 1) := by decide +kernel
theorem e1_Lw_setStrict : decode method_31_code 16 = .ok (.ireturn, 1) := by decide +kernel
def T_Lw_setStrict : TT := [(0, o_ald 2 1), (1, o_push (.int (iI (0))) 2), (2, o_ald 0 3), (3, o_ild 1 4), (4, o_callC M_R_setStrict 0 2 1 34 [("java/lang/IllegalArgumentException", 1)] 7), (7, o_i2l 8), (8, o_last 9), (9, o_goto 15), (12, o_ast 3 13), (13, o_push (.int (iI (1))) 14), (14, o_iret), (15, o_push (.int (iI (0))) 16), (16, o_iret)]
theorem k_Lw_setStrict : ∀ x ∈ T_Lw_setStrict, SO M_Lw_setStrict x.1 x.2 := by
  obtain ⟨h0, h1, h2, h3, h4, h7, h8, h9, h12, h13, h14, h15⟩ := e0_Lw_setStrict
  have h16 := e1_Lw_setStrict
  refine ac (s_aldn (M := M_Lw_setStrict) (pc := 0) (k := 2) h0) ?_
  refine ac (s_iconst (M := M_Lw_setStrict) (pc := 1) h1 rfl) ?_
  refine ac (s_aldn (M := M_Lw_setStrict) (pc := 2) (k := 0) h2) ?_
  refine ac (s_ildn (M := M_Lw_setStrict) (pc := 3) (k := 1) h3) ?_
  refine ac (s_callC (M := M_Lw_setStrict) (pc := 4) (mc1 := 1) (ms1 := 34) (hand := [("java/lang/IllegalArgumentException", 1)]) (show HL M_Lw_setStrict 4 (tabOf M_Lw_setStrict.1) [("java/lang/IllegalArgumentException", 1)] from ⟨⟨by decide, by decide, wd1300, (List.mem_of_getElem? (i := 0) rfl), 13, Or.inl ⟨3, h12, by decide, rfl⟩, h13, h14⟩, by decide, trivial⟩) rfl h4 q_R_setStrict wd1631 wd1632 wd1633 rfl (T := TX7) (N := 12) rfl) ?_
  refine ac (s_i2l (M := M_Lw_setStrict) (pc := 7) h7) ?_
  refine ac (s_last (M := M_Lw_setStrict) (pc := 8) h8) ?_
  refine ac (s_goto (M := M_Lw_setStrict) (pc := 9) h9 (by decide)) ?_
  refine ac (s_astn (M := M_Lw_setStrict) (pc := 12) (k := 3) h12 (by decide)) ?_
  refine ac (s_iconst (M := M_Lw_setStrict) (pc := 13) h13 rfl) ?_
  refine ac (s_iret (M := M_Lw_setStrict) (pc := 14) h14 rfl) ?_
  refine ac (s_iconst (M := M_Lw_setStrict) (pc := 15) h15 rfl) ?_
  refine ac (s_iret (M := M_Lw_setStrict) (pc := 16) h16 rfl) ?_
  exact ac_nil
theorem e0_Lw_undo : decode method_32_code 0 = .ok (.aload_n 1, 1) ∧ decode method_32_code 1 = .ok (.iconst 0, 1) ∧ decode method_32_code 2 = .ok (.aload_n 0, 1) ∧ decode method_32_code 3 = .ok (.invokevirtual 111, 3) ∧ decode method_32_code 6 = .ok (.i2l, 1) ∧ decode method_32_code 7 = .ok (.lastore, 1) ∧ decode method_32_code 8 = .ok (.goto 6, 3) ∧ decode method_32_code 11 = .ok (.astore_n 2, 1) ∧ decode method_32_code 12 = .ok (.iconst 1, 1) ∧ decode method_32_code 13 = .ok (.ireturn, 1) ∧ decode method_32_code 14 = .ok (.iconst 0, 1) ∧ decode method_32_code 15 = .ok (.ireturn, 1) := by decide +kernel
def T_Lw_undo : TT := [(0, o_ald 1 1), (1, o_push (.int (iI (0))) 2), (2, o_ald 0 3), (3, o_callC M_R_undo 0 1 1 34 [("java/util/NoSuchElementException", 1)] 6), (6, o_i2l 7), (7, o_last 8), (8, o_goto 14), (11, o_ast 2 12), (12, o_push (.int (iI (1))) 13), (13, o_iret), (14, o_push (.int (iI (0))) 15), (15, o_iret)]
theorem k_Lw_undo : ∀ x ∈ T_Lw_undo, SO M_Lw_undo x.1 x.2 := by
  obtain ⟨h0, h1, h2, h3, h6, h7, h8, h11, h12, h13, h14, h15⟩ := e0_Lw_undo
  refine ac (s_aldn (M := M_Lw_undo) (pc := 0) (k := 1) h0) ?_
  refine ac (s_iconst (M := M_Lw_undo) (pc := 1) h1 rfl) ?_
  refine ac (s_aldn (M := M_Lw_undo) (pc := 2) (k := 0) h2) ?_
  refine ac (s_callC (M := M_Lw_undo) (pc := 3) (mc1 := 1) (ms1 := 34) (hand := [("java/util/NoSuchElementException", 1)]) (show HL M_Lw_undo 3 (tabOf M_Lw_undo.1) [("java/util/NoSuchElementException", 1)] from ⟨⟨by decide, by decide, wd1638, (List.mem_of_getElem? (i := 3) rfl), 12, Or.inl ⟨2, h11, by decide, rfl⟩, h12, h13⟩, by decide, trivial⟩) rfl h3 q_R_undo wd1639 wd1640 wd1641 rfl (T := TX7) (N := 12) rfl) ?_
  refine ac (s_i2l (M := M_Lw_undo) (pc := 6) h6) ?_
  refine ac (s_last (M := M_Lw_undo) (pc := 7) h7) ?_
  refine ac (s_goto (M := M_Lw_undo) (pc := 8) h8 (by decide)) ?_
  refine ac (s_astn (M := M_Lw_undo) (pc := 11) (k := 2) h11 (by decide)) ?_
  refine ac (s_iconst (M := M_Lw_undo) (pc := 12) h12 rfl) ?_
  refine ac (s_iret (M := M_Lw_undo) (pc := 13) h13 rfl) ?_
  refine ac (s_iconst (M := M_Lw_undo) (pc := 14) h14 rfl) ?_
  refine ac (s_iret (M := M_Lw_undo) (pc := 15) h15 rfl) ?_
  exact ac_nil
theorem e0_Lw_printRegister : decode method_33_code 0 = .ok (.aload_n 2, 1) ∧ decode method_33_code 1 = .ok (.iconst 0, 1) ∧ decode method_33_code 2 = .ok (.aload_n 0, 1) ∧ decode method_33_code 3 = .ok (.iload_n 1, 1) ∧ decode method_33_code 4 = .ok (.invokevirtual 117, 3) ∧ decode method_33_code 7 = .ok (.i2l, 1) ∧ decode method_33_code 8 = .ok (.lastore, 1) ∧ decode method_33_code 9 = .ok (.goto 6, 3) ∧ decode method_33_code 12 = .ok (.astore_n 3, 1) ∧ decode method_33_code 13 = .ok (.iconst 1, 1) ∧ decode method_33_code 14 = .ok (.ireturn, 1) ∧ decode method_33_code 15 = .ok (.iconst 0, 1) := by decide +kernel
theorem e1_Lw_printRegister : decode method_33_code 16 = .ok (.ireturn, 1) := by decide +kernel
def T_Lw_printRegister : TT := [(0, o_ald 2 1), (1, o_push (.int (iI (0))) 2), (2, o_ald 0 3), (3, o_ild 1 4), (4, o_callC M_R_printRegister 0 2 1 34 [("java/lang/IndexOutOfBoundsException", 1)] 7), (7, o_i2l 8), (8, o_last 9), (9, o_goto 15), (12, o_ast 3 13), (13, o_push (.int (iI (1))) 14), (14, o_iret), (15, o_push (.int (iI (0))) 16), (16, o_iret)]
theorem k_Lw_printRegister : ∀ x ∈ T_Lw_printRegister, SO M_Lw_printRegister x.1 x.2 := by
  obtain ⟨h0, h1, h2, h3, h4, h7, h8, h9, h12, h13, h14, h15⟩ := e0_Lw_printRegister
  have h16 := e1_Lw_printRegister
  refine ac (s_aldn (M := M_Lw_printRegister) (pc := 0) (k := 2) h0) ?_
  refine ac (s_iconst (M := M_Lw_printRegister) (pc := 1) h1 rfl) ?_
  refine ac (s_aldn (M := M_Lw_printRegister) (pc := 2) (k := 0) h2) ?_
  refine ac (s_ildn (M := M_Lw_printRegister) (pc := 3) (k := 1) h3) ?_
  refine ac (s_callC (M := M_Lw_printRegister) (pc := 4) (mc1 := 1) (ms1 := 34) (hand := [("java/lang/IndexOutOfBoundsException", 1)]) (show HL M_Lw_printRegister 4 (tabOf M_Lw_printRegister.1) [("java/lang/IndexOutOfBoundsException", 1)] from ⟨⟨by decide, by decide, wd1349, (List.mem_of_getElem? (i := 1) rfl), 13, Or.inl ⟨3, h12, by decide, rfl⟩, h13, h14⟩, by decide, trivial⟩) rfl h4 q_R_printRegister wd1665 wd1666 wd1667 rfl (T := TX7) (N := 12) rfl) ?_
  refine ac (s_i2l (M := M_Lw_printRegister) (pc := 7) h7) ?_
  refine ac (s_last (M := M_Lw_printRegister) (pc := 8) h8) ?_
  refine ac (s_goto (M := M_Lw_printRegister) (pc := 9) h9 (by decide)) ?_
  refine ac (s_astn (M := M_Lw_printRegister) (pc := 12) (k := 3) h12 (by decide)) ?_
  refine ac (s_iconst (M := M_Lw_printRegister) (pc := 13) h13 rfl) ?_
  refine ac (s_iret (M := M_Lw_printRegister) (pc := 14) h14 rfl) ?_
  refine ac (s_iconst (M := M_Lw_printRegister) (pc := 15) h15 rfl) ?_
  refine ac (s_iret (M := M_Lw_printRegister) (pc := 16) h16 rfl) ?_
  exact ac_nil
theorem e0_Lw_restoreState : decode method_34_code 0 = .ok (.aload_n 1, 1) ∧ decode method_34_code 1 = .ok (.iconst 0, 1) ∧ decode method_34_code 2 = .ok (.aload_n 0, 1) ∧ decode method_34_code 3 = .ok (.invokevirtual 120, 3) ∧ decode method_34_code 6 = .ok (.i2l, 1) ∧ decode method_34_code 7 = .ok (.lastore, 1) ∧ decode method_34_code 8 = .ok (.goto 6, 3) ∧ decode method_34_code 11 = .ok (.astore_n 2, 1) ∧ decode method_34_code 12 = .ok (.iconst 1, 1) ∧ decode method_34_code 13 = .ok (.ireturn, 1) ∧ decode method_34_code 14 = .ok (.iconst 0, 1) ∧ decode method_34_code 15 = .ok (.ireturn, 1) := by decide +kernel
def T_Lw_restoreState : TT := [(0, o_ald 1 1), (1, o_push (.int (iI (0))) 2), (2, o_ald 0 3), (3, o_callC M_R_restoreState 0 1 1 34 [("java/util/NoSuchElementException", 1)] 6), (6, o_i2l 7), (7, o_last 8), (8, o_goto 14), (11, o_ast 2 12), (12, o_push (.int (iI (1))) 13), (13, o_iret), (14, o_push (.int (iI (0))) 15), (15, o_iret)]
theorem k_Lw_restoreState : ∀ x ∈ T_Lw_restoreState, SO M_Lw_restoreState x.1 x.2 := by
  obtain ⟨h0, h1, h2, h3, h6, h7, h8, h11, h12, h13, h14, h15⟩ := e0_Lw_restoreState
  refine ac (s_aldn (M := M_Lw_restoreState) (pc := 0) (k := 1) h0) ?_
  refine ac (s_iconst (M := M_Lw_restoreState) (pc := 1) h1 rfl) ?_
  refine ac (s_aldn (M := M_Lw_restoreState) (pc := 2) (k := 0) h2) ?_
  refine ac (s_callC (M := M_Lw_restoreState) (pc := 3) (mc1 := 1) (ms1 := 34) (hand := [("java/util/NoSuchElementException", 1)]) (show HL M_Lw_restoreState 3 (tabOf M_Lw_restoreState.1) [("java/util/NoSuchElementException", 1)] from ⟨⟨by decide, by decide, wd1638, (List.mem_of_getElem? (i := 3) rfl), 12, Or.inl ⟨2, h11, by decide, rfl⟩, h12, h13⟩, by decide, trivial⟩) rfl h3 q_R_restoreState wd1675 wd1676 wd1677 rfl (T := TX7) (N := 12) rfl) ?_
  refine ac (s_i2l (M := M_Lw_restoreState) (pc := 6) h6) ?_
  refine ac (s_last (M := M_Lw_restoreState) (pc := 7) h7) ?_
  refine ac (s_goto (M := M_Lw_restoreState) (pc := 8) h8 (by decide)) ?_
  refine ac (s_astn (M := M_Lw_restoreState) (pc := 11) (k := 2) h11 (by decide)) ?_
  refine ac (s_iconst (M := M_Lw_restoreState) (pc := 12) h12 rfl) ?_
  refine ac (s_iret (M := M_Lw_restoreState) (pc := 13) h13 rfl) ?_
  refine ac (s_iconst (M := M_Lw_restoreState) (pc := 14) h14 rfl) ?_
  refine ac (s_iret (M := M_Lw_restoreState) (pc := 15) h15 rfl) ?_
  exact ac_nil
