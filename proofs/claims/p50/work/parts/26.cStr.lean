/-! STRING CONSTANTS: a place p from 1000 on -/
theorem isS_2 {p : Nat} (h : isS 1000 p = true) : isS 2000 (p + 1000) = true := by
  obtain ⟨i, hi, rfl⟩ := isS_ok h
  unfold isS
  rw [Nat.ble_eq_true_of_le (by omega)]
  exact Nat.ble_eq_true_of_le (by omega)
def sN (p : Nat) : Nat := (stB (p - 1000)).length
def sC (p k : Nat) : Int := ((stB (p - 1000)).getD k 0).toInt
theorem sub_2 (p : Nat) : p + 1000 - 2000 = p - 1000 := by omega
theorem sC_of (p k : Nat) : (stB (p - 1000)).getD k 0 = iI (sC p k) := by
  unfold sC
  rw [iI_of]
theorem stB_none {i : Nat} (h : stTab[i]? = none) : stB i = [] := by
  unfold stB
  rw [List.getD_eq_getElem?_getD, h]
  rfl
theorem st_all (P : Int32 → Bool) (h0 : P 0 = true) (h : stTab.all (fun q => q.2.2.2.all P) = true) (i j : Nat) : P ((stB i).getD j 0) = true := by
  cases hq : stTab[i]? with
  | none =>
    rw [stB_none hq]
    exact h0
  | some q =>
    rw [stB_at hq, List.getD_eq_getElem?_getD]
    cases hj : q.2.2.2[j]? with
    | none => exact h0
    | some b => exact List.all_eq_true.mp (List.all_eq_true.mp h q (List.mem_of_getElem? hq)) b (List.mem_of_getElem? hj)
theorem sN_b (p : Nat) : sN p ≤ 9 := by
  unfold sN
  have h : stTab.all (fun q => decide (q.2.2.2.length ≤ 9)) = true := by decide +kernel
  cases hq : stTab[p - 1000]? with
  | none =>
    rw [stB_none hq]
    exact Nat.zero_le _
  | some q =>
    rw [stB_at hq]
    exact of_decide_eq_true (List.all_eq_true.mp h q (List.mem_of_getElem? hq))
theorem stB_len (i : Nat) : (stB i).length ≤ 9 := by
  have h : stTab.all (fun q => decide (q.2.2.2.length ≤ 9)) = true := by decide +kernel
  cases hq : stTab[i]? with
  | none =>
    rw [stB_none hq]
    exact Nat.zero_le _
  | some q =>
    rw [stB_at hq]
    exact of_decide_eq_true (List.all_eq_true.mp h q (List.mem_of_getElem? hq))
theorem sC_b (p k : Nat) : 0 ≤ sC p k ∧ sC p k ≤ 127 := by
  have := st_all (fun b => decide (0 ≤ b.toInt ∧ b.toInt ≤ 127)) (by decide) (by decide +kernel) (p - 1000) k
  exact of_decide_eq_true this
theorem sC_i2c (p k : Nat) : ((iI (sC p k) &&& iI 255).toUInt32 % 65536).toInt32 = iI (sC p k) := by
  rw [← sC_of]
  have := st_all (fun b => decide (((b &&& iI 255).toUInt32 % 65536).toInt32 = b)) (by decide) (by decide +kernel) (p - 1000) k
  exact of_decide_eq_true this
theorem sC_nar (p k : Nat) : narrow .char (.int (iI (sC p k))) = .int (iI (sC p k)) := by
  rw [← sC_of]
  have := st_all (fun b => decide (vp_nar .char b = b)) (by decide) (by decide +kernel) (p - 1000) k
  have h := of_decide_eq_true this
  show Value.int (vp_nar .char _) = _
  rw [h]
theorem shr0 (x : Int32) : x >>> (iI 0 &&& 31) = x := by
  rw [show (iI 0 &&& 31 : Int32) = 0 by decide]
  simp
theorem shl0 (x : Int32) : x <<< (iI 0 &&& 31) = x := by
  rw [show (iI 0 &&& 31 : Int32) = 0 by decide]
  simp
def sD (i k : Nat) : Int := ((stB i).getD k 0).toInt
theorem sD_of (i k : Nat) : (stB i).getD k 0 = iI (sD i k) := by
  unfold sD
  rw [iI_of]
theorem sD_i2c (i k : Nat) : ((iI (sD i k) &&& iI 255).toUInt32 % 65536).toInt32 = iI (sD i k) := by
  rw [← sD_of]
  have := st_all (fun b => decide (((b &&& iI 255).toUInt32 % 65536).toInt32 = b)) (by decide) (by decide +kernel) i k
  exact of_decide_eq_true this
theorem sD_nar (i k : Nat) : narrow .char (.int (iI (sD i k))) = .int (iI (sD i k)) := by
  rw [← sD_of]
  have := st_all (fun b => decide (vp_nar .char b = b)) (by decide) (by decide +kernel) i k
  have h := of_decide_eq_true this
  show Value.int (vp_nar .char _) = _
  rw [h]
theorem c_jStr_coder {d mc ms : Nat} {w : PW} {K : Option Value → PW → Prop} {KX : String → PW → Prop} {p : Nat} (hp : isS 1000 p = true) (h : K (some (.int (iI 0))) w) : WQ M_jStr_coder d mc ms [.ref p] w K KX := by
  obtain ⟨i9, hi9, rfl⟩ := isS_ok hp
  have hc9 : i9 = 0 ∨ i9 = 1 ∨ i9 = 2 ∨ i9 = 3 ∨ i9 = 4 ∨ i9 = 5 ∨ i9 = 6 ∨ i9 = 7 ∨ i9 = 8 ∨ i9 = 9 ∨ i9 = 10 := by omega
  rcases hc9 with rfl | rfl | rfl | rfl | rfl | rfl | rfl | rfl | rfl | rfl | rfl
  all_goals refine methC (by decide +kernel) (tz_jStr rfl) rfl ?_
  all_goals refine run k_jStr_coder [] 900 ?_
  all_goals ((repeat ((conv => whnf); simp (disch := omega) only [Int.cast_ofNat_Int, Int.reduceToNat, iI_tt, Int.toNat_natCast, iI_add, iI_sub, iI_mul, iI_neg, lI_add, lI_sub, lI_mul, lI_neg, i2l_, l2i_, iI_lt, iI_le, iI_eq, lI_lt, lI_le, lI_eq, iI_lt0, iI_le0, iI_0lt, iI_0le, iI_eq0, iI_eq1, lI_lt0, lI_le0, lI_0lt, lI_0le, lI_eq0, ix_cl, ix_iff, upd_iI, updL_lI, lI_divF, lI_remF, iI_divF, iI_remF, em_eq, Int.not_lt, Int.not_le, true_implies, false_implies, and_true, true_and, not_true_eq_false, not_false_eq_true, true_or, or_true, or_false, false_or])); (conv => whnf))
  all_goals (repeat' ((first | (refine ⟨fun _ => ?_, fun hb => absurd hb (by omega)⟩) | (refine ⟨fun hb => absurd hb (by omega), fun _ => ?_⟩) | (refine ⟨by omega, ?_⟩) | (refine ⟨⟨by omega, (by (conv => whnf); exact trivial)⟩, ?_⟩) | (refine ⟨(Nat.le_of_ble_eq_true rfl), bWp_ok _ (by (conv => whnf); exact trivial), ?_⟩) | (refine ⟨fun _ => ?_, fun _ => ?_⟩) | fail) <;> ((repeat ((conv => whnf); simp (disch := omega) only [Int.cast_ofNat_Int, Int.reduceToNat, iI_tt, Int.toNat_natCast, iI_add, iI_sub, iI_mul, iI_neg, lI_add, lI_sub, lI_mul, lI_neg, i2l_, l2i_, iI_lt, iI_le, iI_eq, lI_lt, lI_le, lI_eq, iI_lt0, iI_le0, iI_0lt, iI_0le, iI_eq0, iI_eq1, lI_lt0, lI_le0, lI_0lt, lI_0le, lI_eq0, ix_cl, ix_iff, upd_iI, updL_lI, lI_divF, lI_remF, iI_divF, iI_remF, em_eq, Int.not_lt, Int.not_le, true_implies, false_implies, and_true, true_and, not_true_eq_false, not_false_eq_true, true_or, or_true, or_false, false_or])); (conv => whnf))))
  all_goals exact ⟨rfl, h⟩
theorem c_jStr_isLatin1 {d mc ms : Nat} {w : PW} {K : Option Value → PW → Prop} {KX : String → PW → Prop} {p : Nat} (hp : isS 1000 p = true) (h : K (some (.int (iI 1))) w) : WQ M_jStr_isLatin1 d mc ms [.ref p] w K KX := by
  obtain ⟨i9, hi9, rfl⟩ := isS_ok hp
  have hc9 : i9 = 0 ∨ i9 = 1 ∨ i9 = 2 ∨ i9 = 3 ∨ i9 = 4 ∨ i9 = 5 ∨ i9 = 6 ∨ i9 = 7 ∨ i9 = 8 ∨ i9 = 9 ∨ i9 = 10 := by omega
  rcases hc9 with rfl | rfl | rfl | rfl | rfl | rfl | rfl | rfl | rfl | rfl | rfl
  all_goals refine methC (by decide +kernel) (tz_jStr rfl) rfl ?_
  all_goals refine run k_jStr_isLatin1 [] 900 ?_
  all_goals ((repeat ((conv => whnf); simp (disch := omega) only [Int.cast_ofNat_Int, Int.reduceToNat, iI_tt, Int.toNat_natCast, iI_add, iI_sub, iI_mul, iI_neg, lI_add, lI_sub, lI_mul, lI_neg, i2l_, l2i_, iI_lt, iI_le, iI_eq, lI_lt, lI_le, lI_eq, iI_lt0, iI_le0, iI_0lt, iI_0le, iI_eq0, iI_eq1, lI_lt0, lI_le0, lI_0lt, lI_0le, lI_eq0, ix_cl, ix_iff, upd_iI, updL_lI, lI_divF, lI_remF, iI_divF, iI_remF, em_eq, Int.not_lt, Int.not_le, true_implies, false_implies, and_true, true_and, not_true_eq_false, not_false_eq_true, true_or, or_true, or_false, false_or])); (conv => whnf))
  all_goals (repeat' ((first | (refine ⟨fun _ => ?_, fun hb => absurd hb (by omega)⟩) | (refine ⟨fun hb => absurd hb (by omega), fun _ => ?_⟩) | (refine ⟨by omega, ?_⟩) | (refine ⟨⟨by omega, (by (conv => whnf); exact trivial)⟩, ?_⟩) | (refine ⟨(Nat.le_of_ble_eq_true rfl), bWp_ok _ (by (conv => whnf); exact trivial), ?_⟩) | (refine ⟨fun _ => ?_, fun _ => ?_⟩) | fail) <;> ((repeat ((conv => whnf); simp (disch := omega) only [Int.cast_ofNat_Int, Int.reduceToNat, iI_tt, Int.toNat_natCast, iI_add, iI_sub, iI_mul, iI_neg, lI_add, lI_sub, lI_mul, lI_neg, i2l_, l2i_, iI_lt, iI_le, iI_eq, lI_lt, lI_le, lI_eq, iI_lt0, iI_le0, iI_0lt, iI_0le, iI_eq0, iI_eq1, lI_lt0, lI_le0, lI_0lt, lI_0le, lI_eq0, ix_cl, ix_iff, upd_iI, updL_lI, lI_divF, lI_remF, iI_divF, iI_remF, em_eq, Int.not_lt, Int.not_le, true_implies, false_implies, and_true, true_and, not_true_eq_false, not_false_eq_true, true_or, or_true, or_false, false_or])); (conv => whnf))))
  all_goals exact h
theorem c_jStr_length {d mc ms : Nat} {w : PW} {K : Option Value → PW → Prop} {KX : String → PW → Prop} {p : Nat} (hp : isS 1000 p = true) (h : K (some (.int (iI (sN p)))) w) : WQ M_jStr_length (d + 1) mc ms [.ref p] w K KX := by
  have hp9 := hp
  obtain ⟨i9, hi9, rfl⟩ := isS_ok hp
  have hc9 : i9 = 0 ∨ i9 = 1 ∨ i9 = 2 ∨ i9 = 3 ∨ i9 = 4 ∨ i9 = 5 ∨ i9 = 6 ∨ i9 = 7 ∨ i9 = 8 ∨ i9 = 9 ∨ i9 = 10 := by omega
  rcases hc9 with rfl | rfl | rfl | rfl | rfl | rfl | rfl | rfl | rfl | rfl | rfl
  all_goals refine methC (by decide +kernel) (tz_jStr rfl) rfl ?_
  all_goals refine run k_jStr_length [] 900 ?_
  all_goals ((repeat ((conv => whnf); simp (disch := omega) only [Int.cast_ofNat_Int, Int.reduceToNat, iI_tt, Int.toNat_natCast, iI_add, iI_sub, iI_mul, iI_neg, lI_add, lI_sub, lI_mul, lI_neg, i2l_, l2i_, iI_lt, iI_le, iI_eq, lI_lt, lI_le, lI_eq, iI_lt0, iI_le0, iI_0lt, iI_0le, iI_eq0, iI_eq1, lI_lt0, lI_le0, lI_0lt, lI_0le, lI_eq0, ix_cl, ix_iff, upd_iI, updL_lI, lI_divF, lI_remF, iI_divF, iI_remF, em_eq, Int.not_lt, Int.not_le, true_implies, false_implies, and_true, true_and, not_true_eq_false, not_false_eq_true, true_or, or_true, or_false, false_or])); (conv => whnf))
  all_goals refine ⟨by omega, ?_⟩
  all_goals (refine c_jStr_coder hp9 ?_)
  all_goals ((repeat ((conv => whnf); simp (disch := omega) only [Int.cast_ofNat_Int, Int.reduceToNat, iI_tt, Int.toNat_natCast, iI_add, iI_sub, iI_mul, iI_neg, lI_add, lI_sub, lI_mul, lI_neg, i2l_, l2i_, iI_lt, iI_le, iI_eq, lI_lt, lI_le, lI_eq, iI_lt0, iI_le0, iI_0lt, iI_0le, iI_eq0, iI_eq1, lI_lt0, lI_le0, lI_0lt, lI_0le, lI_eq0, ix_cl, ix_iff, upd_iI, updL_lI, lI_divF, lI_remF, iI_divF, iI_remF, em_eq, Int.not_lt, Int.not_le, true_implies, false_implies, and_true, true_and, not_true_eq_false, not_false_eq_true, true_or, or_true, or_false, false_or])); (conv => whnf))
  all_goals rw [shr0]
  all_goals exact h
theorem c_jPre_checkIndex {d mc ms : Nat} {w : PW} {K : Option Value → PW → Prop} {KX : String → PW → Prop} {i n : Int} {v : Value} (h0 : 0 ≤ i) (h1 : i < n) (hn : n < 2147483648) (hv : v = .null ∨ v = .ref 3100) (h : K (some (.int (iI i))) w) : WQ M_jPre_checkIndex d mc ms [.int (iI i), .int (iI n), v] w K KX := by
  rcases hv with rfl | rfl
  · refine methC (by decide +kernel) (tz_jPre rfl) rfl ?_
    refine run k_jPre_checkIndex [] 900 ?_
    (repeat ((conv => whnf); simp (disch := omega) only [Int.cast_ofNat_Int, Int.reduceToNat, iI_tt, Int.toNat_natCast, iI_add, iI_sub, iI_mul, iI_neg, lI_add, lI_sub, lI_mul, lI_neg, i2l_, l2i_, iI_lt, iI_le, iI_eq, lI_lt, lI_le, lI_eq, iI_lt0, iI_le0, iI_0lt, iI_0le, iI_eq0, iI_eq1, lI_lt0, lI_le0, lI_0lt, lI_0le, lI_eq0, ix_cl, ix_iff, upd_iI, updL_lI, lI_divF, lI_remF, iI_divF, iI_remF, em_eq, Int.not_lt, Int.not_le, true_implies, false_implies, and_true, true_and, not_true_eq_false, not_false_eq_true, true_or, or_true, or_false, false_or])); (conv => whnf)
    repeat' ((first | (refine ⟨fun _ => ?_, fun hb => absurd hb (by omega)⟩) | (refine ⟨fun hb => absurd hb (by omega), fun _ => ?_⟩) | (refine ⟨by omega, ?_⟩) | (refine ⟨⟨by omega, (by (conv => whnf); exact trivial)⟩, ?_⟩) | (refine ⟨(Nat.le_of_ble_eq_true rfl), bWp_ok _ (by (conv => whnf); exact trivial), ?_⟩) | (refine ⟨fun _ => ?_, fun _ => ?_⟩) | fail) <;> ((repeat ((conv => whnf); simp (disch := omega) only [Int.cast_ofNat_Int, Int.reduceToNat, iI_tt, Int.toNat_natCast, iI_add, iI_sub, iI_mul, iI_neg, lI_add, lI_sub, lI_mul, lI_neg, i2l_, l2i_, iI_lt, iI_le, iI_eq, lI_lt, lI_le, lI_eq, iI_lt0, iI_le0, iI_0lt, iI_0le, iI_eq0, iI_eq1, lI_lt0, lI_le0, lI_0lt, lI_0le, lI_eq0, ix_cl, ix_iff, upd_iI, updL_lI, lI_divF, lI_remF, iI_divF, iI_remF, em_eq, Int.not_lt, Int.not_le, true_implies, false_implies, and_true, true_and, not_true_eq_false, not_false_eq_true, true_or, or_true, or_false, false_or])); (conv => whnf)))
    exact h
  · refine methC (by decide +kernel) (tz_jPre rfl) rfl ?_
    refine run k_jPre_checkIndex [] 900 ?_
    (repeat ((conv => whnf); simp (disch := omega) only [Int.cast_ofNat_Int, Int.reduceToNat, iI_tt, Int.toNat_natCast, iI_add, iI_sub, iI_mul, iI_neg, lI_add, lI_sub, lI_mul, lI_neg, i2l_, l2i_, iI_lt, iI_le, iI_eq, lI_lt, lI_le, lI_eq, iI_lt0, iI_le0, iI_0lt, iI_0le, iI_eq0, iI_eq1, lI_lt0, lI_le0, lI_0lt, lI_0le, lI_eq0, ix_cl, ix_iff, upd_iI, updL_lI, lI_divF, lI_remF, iI_divF, iI_remF, em_eq, Int.not_lt, Int.not_le, true_implies, false_implies, and_true, true_and, not_true_eq_false, not_false_eq_true, true_or, or_true, or_false, false_or])); (conv => whnf)
    repeat' ((first | (refine ⟨fun _ => ?_, fun hb => absurd hb (by omega)⟩) | (refine ⟨fun hb => absurd hb (by omega), fun _ => ?_⟩) | (refine ⟨by omega, ?_⟩) | (refine ⟨⟨by omega, (by (conv => whnf); exact trivial)⟩, ?_⟩) | (refine ⟨(Nat.le_of_ble_eq_true rfl), bWp_ok _ (by (conv => whnf); exact trivial), ?_⟩) | (refine ⟨fun _ => ?_, fun _ => ?_⟩) | fail) <;> ((repeat ((conv => whnf); simp (disch := omega) only [Int.cast_ofNat_Int, Int.reduceToNat, iI_tt, Int.toNat_natCast, iI_add, iI_sub, iI_mul, iI_neg, lI_add, lI_sub, lI_mul, lI_neg, i2l_, l2i_, iI_lt, iI_le, iI_eq, lI_lt, lI_le, lI_eq, iI_lt0, iI_le0, iI_0lt, iI_0le, iI_eq0, iI_eq1, lI_lt0, lI_le0, lI_0lt, lI_0le, lI_eq0, ix_cl, ix_iff, upd_iI, updL_lI, lI_divF, lI_remF, iI_divF, iI_remF, em_eq, Int.not_lt, Int.not_le, true_implies, false_implies, and_true, true_and, not_true_eq_false, not_false_eq_true, true_or, or_true, or_false, false_or])); (conv => whnf)))
    exact h
theorem c_jStr_checkIndex {d mc ms : Nat} {w : PW} {K : Option Value → PW → Prop} {KX : String → PW → Prop} {i n : Int} (h0 : 0 ≤ i) (h1 : i < n) (hn : n < 2147483648) (h : K none w) : WQ M_jStr_checkIndex (d + 1) mc ms [.int (iI i), .int (iI n)] w K KX := by
  refine methC (by decide +kernel) (tz_jStr rfl) rfl ?_
  refine run k_jStr_checkIndex [] 900 ?_
  (repeat ((conv => whnf); simp (disch := omega) only [Int.cast_ofNat_Int, Int.reduceToNat, iI_tt, Int.toNat_natCast, iI_add, iI_sub, iI_mul, iI_neg, lI_add, lI_sub, lI_mul, lI_neg, i2l_, l2i_, iI_lt, iI_le, iI_eq, lI_lt, lI_le, lI_eq, iI_lt0, iI_le0, iI_0lt, iI_0le, iI_eq0, iI_eq1, lI_lt0, lI_le0, lI_0lt, lI_0le, lI_eq0, ix_cl, ix_iff, upd_iI, updL_lI, lI_divF, lI_remF, iI_divF, iI_remF, em_eq, Int.not_lt, Int.not_le, true_implies, false_implies, and_true, true_and, not_true_eq_false, not_false_eq_true, true_or, or_true, or_false, false_or])); (conv => whnf)
  refine ⟨?_, ?_⟩
  · refine c_jPre_checkIndex h0 h1 hn (Or.inl rfl) ?_
    (repeat ((conv => whnf); simp (disch := omega) only [Int.cast_ofNat_Int, Int.reduceToNat, iI_tt, Int.toNat_natCast, iI_add, iI_sub, iI_mul, iI_neg, lI_add, lI_sub, lI_mul, lI_neg, i2l_, l2i_, iI_lt, iI_le, iI_eq, lI_lt, lI_le, lI_eq, iI_lt0, iI_le0, iI_0lt, iI_0le, iI_eq0, iI_eq1, lI_lt0, lI_le0, lI_0lt, lI_0le, lI_eq0, ix_cl, ix_iff, upd_iI, updL_lI, lI_divF, lI_remF, iI_divF, iI_remF, em_eq, Int.not_lt, Int.not_le, true_implies, false_implies, and_true, true_and, not_true_eq_false, not_false_eq_true, true_or, or_true, or_false, false_or])); (conv => whnf)
    exact h
  · refine c_jPre_checkIndex h0 h1 hn (Or.inr rfl) ?_
    (repeat ((conv => whnf); simp (disch := omega) only [Int.cast_ofNat_Int, Int.reduceToNat, iI_tt, Int.toNat_natCast, iI_add, iI_sub, iI_mul, iI_neg, lI_add, lI_sub, lI_mul, lI_neg, i2l_, l2i_, iI_lt, iI_le, iI_eq, lI_lt, lI_le, lI_eq, iI_lt0, iI_le0, iI_0lt, iI_0le, iI_eq0, iI_eq1, lI_lt0, lI_le0, lI_0lt, lI_0le, lI_eq0, ix_cl, ix_iff, upd_iI, updL_lI, lI_divF, lI_remF, iI_divF, iI_remF, em_eq, Int.not_lt, Int.not_le, true_implies, false_implies, and_true, true_and, not_true_eq_false, not_false_eq_true, true_or, or_true, or_false, false_or])); (conv => whnf)
    exact h
theorem c_jLat_charAt {d mc ms : Nat} {w : PW} {K : Option Value → PW → Prop} {KX : String → PW → Prop} {p : Nat} {k : Int} (hp : isS 1000 p = true) (h0 : 0 ≤ k) (h1 : k < sN p) (h : K (some (.int (iI (sC p k.toNat)))) w) : WQ M_jLat_charAt (d + 2) mc ms [.ref (p + 1000), .int (iI k)] w K KX := by
  have hN := sN_b p
  obtain ⟨i9, hi9, rfl⟩ := isS_ok hp
  have hc9 : i9 = 0 ∨ i9 = 1 ∨ i9 = 2 ∨ i9 = 3 ∨ i9 = 4 ∨ i9 = 5 ∨ i9 = 6 ∨ i9 = 7 ∨ i9 = 8 ∨ i9 = 9 ∨ i9 = 10 := by omega
  rcases hc9 with rfl | rfl | rfl | rfl | rfl | rfl | rfl | rfl | rfl | rfl | rfl
  all_goals refine methC (by decide +kernel) (tz_jLat rfl) rfl ?_
  all_goals refine run k_jLat_charAt [] 900 ?_
  all_goals ((repeat ((conv => whnf); simp (disch := omega) only [Int.cast_ofNat_Int, Int.reduceToNat, iI_tt, Int.toNat_natCast, iI_add, iI_sub, iI_mul, iI_neg, lI_add, lI_sub, lI_mul, lI_neg, i2l_, l2i_, iI_lt, iI_le, iI_eq, lI_lt, lI_le, lI_eq, iI_lt0, iI_le0, iI_0lt, iI_0le, iI_eq0, iI_eq1, lI_lt0, lI_le0, lI_0lt, lI_0le, lI_eq0, ix_cl, ix_iff, upd_iI, updL_lI, lI_divF, lI_remF, iI_divF, iI_remF, em_eq, Int.not_lt, Int.not_le, true_implies, false_implies, and_true, true_and, not_true_eq_false, not_false_eq_true, true_or, or_true, or_false, false_or])); (conv => whnf))
  all_goals refine c_jStr_checkIndex h0 h1 (Int.lt_of_le_of_lt (Int.ofNat_le.mpr (stB_len _)) (by decide)) ?_
  all_goals ((repeat ((conv => whnf); simp (disch := omega) only [Int.cast_ofNat_Int, Int.reduceToNat, iI_tt, Int.toNat_natCast, iI_add, iI_sub, iI_mul, iI_neg, lI_add, lI_sub, lI_mul, lI_neg, i2l_, l2i_, iI_lt, iI_le, iI_eq, lI_lt, lI_le, lI_eq, iI_lt0, iI_le0, iI_0lt, iI_0le, iI_eq0, iI_eq1, lI_lt0, lI_le0, lI_0lt, lI_0le, lI_eq0, ix_cl, ix_iff, upd_iI, updL_lI, lI_divF, lI_remF, iI_divF, iI_remF, em_eq, Int.not_lt, Int.not_le, true_implies, false_implies, and_true, true_and, not_true_eq_false, not_false_eq_true, true_or, or_true, or_false, false_or])); (conv => whnf))
  all_goals refine ⟨⟨h0, h1⟩, ?_⟩
  all_goals ((repeat ((conv => whnf); simp (disch := omega) only [sD_of, sD_i2c, Int.cast_ofNat_Int, Int.reduceToNat, iI_tt, Int.toNat_natCast, iI_add, iI_sub, iI_mul, iI_neg, lI_add, lI_sub, lI_mul, lI_neg, i2l_, l2i_, iI_lt, iI_le, iI_eq, lI_lt, lI_le, lI_eq, iI_lt0, iI_le0, iI_0lt, iI_0le, iI_eq0, iI_eq1, lI_lt0, lI_le0, lI_0lt, lI_0le, lI_eq0, ix_cl, ix_iff, upd_iI, updL_lI, lI_divF, lI_remF, iI_divF, iI_remF, em_eq, Int.not_lt, Int.not_le, true_implies, false_implies, and_true, true_and, not_true_eq_false, not_false_eq_true, true_or, or_true, or_false, false_or])); (conv => whnf))
  all_goals exact ⟨sD_nar _ _, h⟩
theorem c_jStr_charAt {d mc ms : Nat} {w : PW} {K : Option Value → PW → Prop} {KX : String → PW → Prop} {p : Nat} {k : Int} (hp : isS 1000 p = true) (h0 : 0 ≤ k) (h1 : k < sN p) (h : K (some (.int (iI (sC p k.toNat)))) w) : WQ M_jStr_charAt (d + 3) mc ms [.ref p, .int (iI k)] w K KX := by
  have hp9 := hp
  obtain ⟨i9, hi9, rfl⟩ := isS_ok hp
  have hc9 : i9 = 0 ∨ i9 = 1 ∨ i9 = 2 ∨ i9 = 3 ∨ i9 = 4 ∨ i9 = 5 ∨ i9 = 6 ∨ i9 = 7 ∨ i9 = 8 ∨ i9 = 9 ∨ i9 = 10 := by omega
  rcases hc9 with rfl | rfl | rfl | rfl | rfl | rfl | rfl | rfl | rfl | rfl | rfl
  all_goals refine methC (by decide +kernel) (tz_jStr rfl) rfl ?_
  all_goals refine run k_jStr_charAt [] 900 ?_
  all_goals ((repeat ((conv => whnf); simp (disch := omega) only [Int.cast_ofNat_Int, Int.reduceToNat, iI_tt, Int.toNat_natCast, iI_add, iI_sub, iI_mul, iI_neg, lI_add, lI_sub, lI_mul, lI_neg, i2l_, l2i_, iI_lt, iI_le, iI_eq, lI_lt, lI_le, lI_eq, iI_lt0, iI_le0, iI_0lt, iI_0le, iI_eq0, iI_eq1, lI_lt0, lI_le0, lI_0lt, lI_0le, lI_eq0, ix_cl, ix_iff, upd_iI, updL_lI, lI_divF, lI_remF, iI_divF, iI_remF, em_eq, Int.not_lt, Int.not_le, true_implies, false_implies, and_true, true_and, not_true_eq_false, not_false_eq_true, true_or, or_true, or_false, false_or])); (conv => whnf))
  all_goals refine ⟨by omega, ?_⟩
  all_goals (refine c_jStr_isLatin1 hp9 ?_)
  all_goals ((repeat ((conv => whnf); simp (disch := omega) only [Int.cast_ofNat_Int, Int.reduceToNat, iI_tt, Int.toNat_natCast, iI_add, iI_sub, iI_mul, iI_neg, lI_add, lI_sub, lI_mul, lI_neg, i2l_, l2i_, iI_lt, iI_le, iI_eq, lI_lt, lI_le, lI_eq, iI_lt0, iI_le0, iI_0lt, iI_0le, iI_eq0, iI_eq1, lI_lt0, lI_le0, lI_0lt, lI_0le, lI_eq0, ix_cl, ix_iff, upd_iI, updL_lI, lI_divF, lI_remF, iI_divF, iI_remF, em_eq, Int.not_lt, Int.not_le, true_implies, false_implies, and_true, true_and, not_true_eq_false, not_false_eq_true, true_or, or_true, or_false, false_or])); (conv => whnf))
  all_goals ((repeat ((conv => whnf); simp (disch := omega) only [Int.cast_ofNat_Int, Int.reduceToNat, iI_tt, Int.toNat_natCast, iI_add, iI_sub, iI_mul, iI_neg, lI_add, lI_sub, lI_mul, lI_neg, i2l_, l2i_, iI_lt, iI_le, iI_eq, lI_lt, lI_le, lI_eq, iI_lt0, iI_le0, iI_0lt, iI_0le, iI_eq0, iI_eq1, lI_lt0, lI_le0, lI_0lt, lI_0le, lI_eq0, ix_cl, ix_iff, upd_iI, updL_lI, lI_divF, lI_remF, iI_divF, iI_remF, em_eq, Int.not_lt, Int.not_le, true_implies, false_implies, and_true, true_and, not_true_eq_false, not_false_eq_true, true_or, or_true, or_false, false_or])); (conv => whnf))
  all_goals (repeat' ((first | (refine ⟨fun _ => ?_, fun hb => absurd hb (by omega)⟩) | (refine ⟨fun hb => absurd hb (by omega), fun _ => ?_⟩) | (refine ⟨by omega, ?_⟩) | (refine ⟨⟨by omega, (by (conv => whnf); exact trivial)⟩, ?_⟩) | (refine ⟨(Nat.le_of_ble_eq_true rfl), bWp_ok _ (by (conv => whnf); exact trivial), ?_⟩) | (refine ⟨fun _ => ?_, fun _ => ?_⟩) | fail) <;> ((repeat ((conv => whnf); simp (disch := omega) only [Int.cast_ofNat_Int, Int.reduceToNat, iI_tt, Int.toNat_natCast, iI_add, iI_sub, iI_mul, iI_neg, lI_add, lI_sub, lI_mul, lI_neg, i2l_, l2i_, iI_lt, iI_le, iI_eq, lI_lt, lI_le, lI_eq, iI_lt0, iI_le0, iI_0lt, iI_0le, iI_eq0, iI_eq1, lI_lt0, lI_le0, lI_0lt, lI_0le, lI_eq0, ix_cl, ix_iff, upd_iI, updL_lI, lI_divF, lI_remF, iI_divF, iI_remF, em_eq, Int.not_lt, Int.not_le, true_implies, false_implies, and_true, true_and, not_true_eq_false, not_false_eq_true, true_or, or_true, or_false, false_or])); (conv => whnf))))
  all_goals (refine c_jLat_charAt hp9 h0 h1 ?_)
  all_goals ((repeat ((conv => whnf); simp (disch := omega) only [Int.cast_ofNat_Int, Int.reduceToNat, iI_tt, Int.toNat_natCast, iI_add, iI_sub, iI_mul, iI_neg, lI_add, lI_sub, lI_mul, lI_neg, i2l_, l2i_, iI_lt, iI_le, iI_eq, lI_lt, lI_le, lI_eq, iI_lt0, iI_le0, iI_0lt, iI_0le, iI_eq0, iI_eq1, lI_lt0, lI_le0, lI_0lt, lI_0le, lI_eq0, ix_cl, ix_iff, upd_iI, updL_lI, lI_divF, lI_remF, iI_divF, iI_remF, em_eq, Int.not_lt, Int.not_le, true_implies, false_implies, and_true, true_and, not_true_eq_false, not_false_eq_true, true_or, or_true, or_false, false_or])); (conv => whnf))
  all_goals exact ⟨sC_nar _ _, h⟩
