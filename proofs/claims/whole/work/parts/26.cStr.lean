/-! STRING CONSTANTS: a place p from 1000 on -/
theorem isS_2 {p : Nat} (h : isS 1000 p = true) : isS 2000 (p + 1000) = true := by
  obtain ⟨i, hi, rfl⟩ := isS_ok h
  unfold isS
  rw [Nat.ble_eq_true_of_le (by omega)]
  exact Nat.ble_eq_true_of_le (by omega)
def sN (p : Nat) : Nat := (stB (p - 1000)).length
def sC (p k : Nat) : Int := ((stB (p - 1000)).getD k 0).toInt
theorem sub_2 (p : Nat) : p + 1000 - 2000 = p - 1000 := by omega
theorem sC_of (p k : Nat) : (stB (p - 1000)).getD k 0 = iI (sC p k) := by
  unfold sC
  rw [iI_of]
theorem stB_none {i : Nat} (h : stTab[i]? = none) : stB i = [] := by
  unfold stB
  rw [List.getD_eq_getElem?_getD, h]
  rfl
theorem st_all (P : Int32 → Bool) (h0 : P 0 = true) (h : stTab.all (fun q => q.2.2.2.all P) = true) (i j : Nat) : P ((stB i).getD j 0) = true := by
  cases hq : stTab[i]? with
  | none =>
    rw [stB_none hq]
    exact h0
  | some q =>
    rw [stB_at hq, List.getD_eq_getElem?_getD]
    cases hj : q.2.2.2[j]? with
    | none => exact h0
    | some b => exact List.all_eq_true.mp (List.all_eq_true.mp h q (List.mem_of_getElem? hq)) b (List.mem_of_getElem? hj)
theorem sN_b (p : Nat) : sN p ≤ 9 := by
  unfold sN
  have h : stTab.all (fun q => decide (q.2.2.2.length ≤ 9)) = true := by decide +kernel
  cases hq : stTab[p - 1000]? with
  | none =>
    rw [stB_none hq]
    exact Nat.zero_le _
  | some q =>
    rw [stB_at hq]
    exact of_decide_eq_true (List.all_eq_true.mp h q (List.mem_of_getElem? hq))
theorem sC_b (p k : Nat) : 0 ≤ sC p k ∧ sC p k ≤ 127 := by
  have := st_all (fun b => decide (0 ≤ b.toInt ∧ b.toInt ≤ 127)) (by decide) (by decide +kernel) (p - 1000) k
  exact of_decide_eq_true this
theorem sC_i2c (p k : Nat) : ((iI (sC p k) &&& iI 255).toUInt32 % 65536).toInt32 = iI (sC p k) := by
  rw [← sC_of]
  have := st_all (fun b => decide (((b &&& iI 255).toUInt32 % 65536).toInt32 = b)) (by decide) (by decide +kernel) (p - 1000) k
  exact of_decide_eq_true this
theorem sC_nar (p k : Nat) : narrow .char (.int (iI (sC p k))) = .int (iI (sC p k)) := by
  rw [← sC_of]
  have := st_all (fun b => decide (vp_nar .char b = b)) (by decide) (by decide +kernel) (p - 1000) k
  have h := of_decide_eq_true this
  show Value.int (vp_nar .char _) = _
  rw [h]
theorem shr0 (x : Int32) : x >>> (iI 0 &&& 31) = x := by
  rw [show (iI 0 &&& 31 : Int32) = 0 by decide]
  simp
theorem shl0 (x : Int32) : x <<< (iI 0 &&& 31) = x := by
  rw [show (iI 0 &&& 31 : Int32) = 0 by decide]
  simp
theorem c_jStr_coder {d mc ms : Nat} {w : PW} {K : Option Value → PW → Prop} {KX : String → PW → Prop} {p : Nat} (hp : isS 1000 p = true) (h : K (some (.int (iI 0))) w) : WQ M_jStr_coder d mc ms [.ref p] w K KX := by
  refine methC (by decide +kernel) (tz_jStr rfl) rfl ?_
  refine run k_jStr_coder [] 900 ?_
  (repeat ((conv => whnf); simp (disch := omega) only [hp, Int.cast_ofNat_Int, iI_tt, Int.toNat_natCast, iI_add, iI_sub, iI_mul, iI_neg, lI_add, lI_sub, lI_mul, lI_neg, i2l_, l2i_, iI_lt, iI_le, iI_eq, lI_lt, lI_le, lI_eq, iI_lt0, iI_le0, iI_0lt, iI_0le, iI_eq0, iI_eq1, lI_lt0, lI_le0, lI_0lt, lI_0le, lI_eq0, ix_cl, ix_iff, upd_iI, updL_lI, lI_divF, lI_remF, iI_divF, iI_remF, em_eq, Int.not_lt, Int.not_le, true_implies, false_implies, and_true, true_and, not_true_eq_false, not_false_eq_true, true_or, or_true, or_false, false_or])); (conv => whnf)
  repeat' ((first | (refine ⟨fun _ => ?_, fun hb => absurd hb (by omega)⟩) | (refine ⟨fun hb => absurd hb (by omega), fun _ => ?_⟩) | (refine ⟨by omega, ?_⟩) | (refine ⟨⟨by omega, (by (conv => whnf); exact trivial)⟩, ?_⟩) | (refine ⟨(Nat.le_of_ble_eq_true rfl), bWp_ok _ (by (conv => whnf); exact trivial), ?_⟩) | (refine ⟨fun _ => ?_, fun _ => ?_⟩) | fail) <;> ((repeat ((conv => whnf); simp (disch := omega) only [hp, Int.cast_ofNat_Int, iI_tt, Int.toNat_natCast, iI_add, iI_sub, iI_mul, iI_neg, lI_add, lI_sub, lI_mul, lI_neg, i2l_, l2i_, iI_lt, iI_le, iI_eq, lI_lt, lI_le, lI_eq, iI_lt0, iI_le0, iI_0lt, iI_0le, iI_eq0, iI_eq1, lI_lt0, lI_le0, lI_0lt, lI_0le, lI_eq0, ix_cl, ix_iff, upd_iI, updL_lI, lI_divF, lI_remF, iI_divF, iI_remF, em_eq, Int.not_lt, Int.not_le, true_implies, false_implies, and_true, true_and, not_true_eq_false, not_false_eq_true, true_or, or_true, or_false, false_or])); (conv => whnf)))
  refine ⟨rfl, ?_⟩
  exact h
theorem c_jStr_isLatin1 {d mc ms : Nat} {w : PW} {K : Option Value → PW → Prop} {KX : String → PW → Prop} {p : Nat} (hp : isS 1000 p = true) (h : K (some (.int (iI 1))) w) : WQ M_jStr_isLatin1 d mc ms [.ref p] w K KX := by
  refine methC (by decide +kernel) (tz_jStr rfl) rfl ?_
  refine run k_jStr_isLatin1 [] 900 ?_
  (repeat ((conv => whnf); simp (disch := omega) only [hp, Int.cast_ofNat_Int, iI_tt, Int.toNat_natCast, iI_add, iI_sub, iI_mul, iI_neg, lI_add, lI_sub, lI_mul, lI_neg, i2l_, l2i_, iI_lt, iI_le, iI_eq, lI_lt, lI_le, lI_eq, iI_lt0, iI_le0, iI_0lt, iI_0le, iI_eq0, iI_eq1, lI_lt0, lI_le0, lI_0lt, lI_0le, lI_eq0, ix_cl, ix_iff, upd_iI, updL_lI, lI_divF, lI_remF, iI_divF, iI_remF, em_eq, Int.not_lt, Int.not_le, true_implies, false_implies, and_true, true_and, not_true_eq_false, not_false_eq_true, true_or, or_true, or_false, false_or])); (conv => whnf)
  repeat' ((first | (refine ⟨fun _ => ?_, fun hb => absurd hb (by omega)⟩) | (refine ⟨fun hb => absurd hb (by omega), fun _ => ?_⟩) | (refine ⟨by omega, ?_⟩) | (refine ⟨⟨by omega, (by (conv => whnf); exact trivial)⟩, ?_⟩) | (refine ⟨(Nat.le_of_ble_eq_true rfl), bWp_ok _ (by (conv => whnf); exact trivial), ?_⟩) | (refine ⟨fun _ => ?_, fun _ => ?_⟩) | fail) <;> ((repeat ((conv => whnf); simp (disch := omega) only [hp, Int.cast_ofNat_Int, iI_tt, Int.toNat_natCast, iI_add, iI_sub, iI_mul, iI_neg, lI_add, lI_sub, lI_mul, lI_neg, i2l_, l2i_, iI_lt, iI_le, iI_eq, lI_lt, lI_le, lI_eq, iI_lt0, iI_le0, iI_0lt, iI_0le, iI_eq0, iI_eq1, lI_lt0, lI_le0, lI_0lt, lI_0le, lI_eq0, ix_cl, ix_iff, upd_iI, updL_lI, lI_divF, lI_remF, iI_divF, iI_remF, em_eq, Int.not_lt, Int.not_le, true_implies, false_implies, and_true, true_and, not_true_eq_false, not_false_eq_true, true_or, or_true, or_false, false_or])); (conv => whnf)))
  exact h
theorem c_jStr_length {d mc ms : Nat} {w : PW} {K : Option Value → PW → Prop} {KX : String → PW → Prop} {p : Nat} (hp : isS 1000 p = true) (h : K (some (.int (iI (sN p)))) w) : WQ M_jStr_length (d + 1) mc ms [.ref p] w K KX := by
  have hq := isS_2 hp
  refine methC (by decide +kernel) (tz_jStr rfl) rfl ?_
  refine run k_jStr_length [] 900 ?_
  (repeat ((conv => whnf); simp (disch := omega) only [hp, hq, sub_2, Int.cast_ofNat_Int, iI_tt, Int.toNat_natCast, iI_add, iI_sub, iI_mul, iI_neg, lI_add, lI_sub, lI_mul, lI_neg, i2l_, l2i_, iI_lt, iI_le, iI_eq, lI_lt, lI_le, lI_eq, iI_lt0, iI_le0, iI_0lt, iI_0le, iI_eq0, iI_eq1, lI_lt0, lI_le0, lI_0lt, lI_0le, lI_eq0, ix_cl, ix_iff, upd_iI, updL_lI, lI_divF, lI_remF, iI_divF, iI_remF, em_eq, Int.not_lt, Int.not_le, true_implies, false_implies, and_true, true_and, not_true_eq_false, not_false_eq_true, true_or, or_true, or_false, false_or])); (conv => whnf)
  (repeat ((conv => whnf); simp (disch := omega) only [hp, hq, sub_2, Int.cast_ofNat_Int, iI_tt, Int.toNat_natCast, iI_add, iI_sub, iI_mul, iI_neg, lI_add, lI_sub, lI_mul, lI_neg, i2l_, l2i_, iI_lt, iI_le, iI_eq, lI_lt, lI_le, lI_eq, iI_lt0, iI_le0, iI_0lt, iI_0le, iI_eq0, iI_eq1, lI_lt0, lI_le0, lI_0lt, lI_0le, lI_eq0, ix_cl, ix_iff, upd_iI, updL_lI, lI_divF, lI_remF, iI_divF, iI_remF, em_eq, Int.not_lt, Int.not_le, true_implies, false_implies, and_true, true_and, not_true_eq_false, not_false_eq_true, true_or, or_true, or_false, false_or])); (conv => whnf)
  repeat' ((first | (refine ⟨fun _ => ?_, fun hb => absurd hb (by omega)⟩) | (refine ⟨fun hb => absurd hb (by omega), fun _ => ?_⟩) | (refine ⟨by omega, ?_⟩) | (refine ⟨⟨by omega, (by (conv => whnf); exact trivial)⟩, ?_⟩) | (refine ⟨(Nat.le_of_ble_eq_true rfl), bWp_ok _ (by (conv => whnf); exact trivial), ?_⟩) | (refine ⟨fun _ => ?_, fun _ => ?_⟩) | fail) <;> ((repeat ((conv => whnf); simp (disch := omega) only [hp, hq, sub_2, Int.cast_ofNat_Int, iI_tt, Int.toNat_natCast, iI_add, iI_sub, iI_mul, iI_neg, lI_add, lI_sub, lI_mul, lI_neg, i2l_, l2i_, iI_lt, iI_le, iI_eq, lI_lt, lI_le, lI_eq, iI_lt0, iI_le0, iI_0lt, iI_0le, iI_eq0, iI_eq1, lI_lt0, lI_le0, lI_0lt, lI_0le, lI_eq0, ix_cl, ix_iff, upd_iI, updL_lI, lI_divF, lI_remF, iI_divF, iI_remF, em_eq, Int.not_lt, Int.not_le, true_implies, false_implies, and_true, true_and, not_true_eq_false, not_false_eq_true, true_or, or_true, or_false, false_or])); (conv => whnf)))
  refine c_jStr_coder hp ?_
  (repeat ((conv => whnf); simp (disch := omega) only [hp, hq, sub_2, Int.cast_ofNat_Int, iI_tt, Int.toNat_natCast, iI_add, iI_sub, iI_mul, iI_neg, lI_add, lI_sub, lI_mul, lI_neg, i2l_, l2i_, iI_lt, iI_le, iI_eq, lI_lt, lI_le, lI_eq, iI_lt0, iI_le0, iI_0lt, iI_0le, iI_eq0, iI_eq1, lI_lt0, lI_le0, lI_0lt, lI_0le, lI_eq0, ix_cl, ix_iff, upd_iI, updL_lI, lI_divF, lI_remF, iI_divF, iI_remF, em_eq, Int.not_lt, Int.not_le, true_implies, false_implies, and_true, true_and, not_true_eq_false, not_false_eq_true, true_or, or_true, or_false, false_or])); (conv => whnf)
  rw [shr0]
  exact h
