/-! THE CLASS: its constructor, the second half -/
set_option maxRecDepth 8000 in
theorem R_i2 {d : Nat} {K : Option Value → PW → Prop} {KX : String → PW → Prop} {rf : Nat → Option Nat} (hrf : ∀ j q, rf j = some q → q < 76) (h : GO M_R_init (d + 6) 0 0 100 [some (.ref 0)] [] (rW (fun _ => 0) 0 MZ MZ MZ 0 0 0 rf (fun _ => MZ) TZ TZ 0 0 PZ 0 (-1) 92 0 0 (byt 16 z0) []) K KX) : GO M_R_init (d + 6) 17 6083 57 [some (.ref 0)] [] ([.inr (0, [.ref 1, .int (iI 0), .ref 2, .ref 8, .ref 14, .int (iI 0), .ref 20, .null, .null, .int (iI 0), .int (iI 0), .null]), .inl (0, 500, .inl (fun _ => 0))] ++ (mlM 2 MZ ++ (mlM 8 MZ ++ (mlM 14 MZ ++ ([.inr (3, [.ref 21, .int (iI 0), .int (iI 0)]), .inl (3, 9, .inr (.inr (.inr (.inr rf))))] ++ (mlM 22 MZ ++ (mlM 28 MZ ++ (mlM 34 MZ ++ (mlM 40 MZ ++ (mlM 46 MZ ++ (mlM 52 MZ ++ (mlM 58 MZ ++ (mlM 64 MZ ++ mlM 70 MZ))))))))))))) K KX := by
  refine run k_R_init [100] 900 ?_
  (repeat ((conv => whnf); simp (disch := omega) only [Int.cast_ofNat_Int, Int.reduceToNat, iI_tt, Int.toNat_natCast, iI_add, iI_sub, iI_mul, iI_neg, lI_add, lI_sub, lI_mul, lI_neg, i2l_, l2i_, iI_lt, iI_le, iI_eq, lI_lt, lI_le, lI_eq, iI_lt0, iI_le0, iI_0lt, iI_0le, iI_eq0, iI_eq1, lI_lt0, lI_le0, lI_0lt, lI_0le, lI_eq0, ix_cl, ix_iff, upd_iI, updL_lI, lI_divF, lI_remF, iI_divF, iI_remF, em_eq, Int.not_lt, Int.not_le, true_implies, false_implies, and_true, true_and, not_true_eq_false, not_false_eq_true, true_or, or_true, or_false, false_or])); (conv => whnf)
  refine ⟨⟨by decide, (by
    (conv => whnf)
    exact ⟨fun j q hj => Or.inl (Nat.lt_of_lt_of_le (hrf j q hj) (Nat.le_of_ble_eq_true rfl)), (by (conv => whnf); exact trivial)⟩)⟩, ?_⟩
  (repeat ((conv => whnf); simp (disch := omega) only [Int.cast_ofNat_Int, Int.reduceToNat, iI_tt, Int.toNat_natCast, iI_add, iI_sub, iI_mul, iI_neg, lI_add, lI_sub, lI_mul, lI_neg, i2l_, l2i_, iI_lt, iI_le, iI_eq, lI_lt, lI_le, lI_eq, iI_lt0, iI_le0, iI_0lt, iI_0le, iI_eq0, iI_eq1, lI_lt0, lI_le0, lI_0lt, lI_0le, lI_eq0, ix_cl, ix_iff, upd_iI, updL_lI, lI_divF, lI_remF, iI_divF, iI_remF, em_eq, Int.not_lt, Int.not_le, true_implies, false_implies, and_true, true_and, not_true_eq_false, not_false_eq_true, true_or, or_true, or_false, false_or])); (conv => whnf)
  refine ⟨⟨by decide, by decide⟩, ?_⟩
  refine WQ_fr [76] [.inr (5, [.null])] [.ref 0] rfl rfl rfl rfl ?_
  refine c_Se_init ?_
  refine frK_new (bWp_ok _ (by
    (conv => whnf)
    exact ⟨fun j q hj => Or.inl (Nat.lt_of_lt_of_le (hrf j q hj) (Nat.le_of_ble_eq_true rfl)), (by (conv => whnf); exact trivial)⟩)) ?_
  (repeat ((conv => whnf); simp (disch := omega) only [Int.cast_ofNat_Int, Int.reduceToNat, iI_tt, Int.toNat_natCast, iI_add, iI_sub, iI_mul, iI_neg, lI_add, lI_sub, lI_mul, lI_neg, i2l_, l2i_, iI_lt, iI_le, iI_eq, lI_lt, lI_le, lI_eq, iI_lt0, iI_le0, iI_0lt, iI_0le, iI_eq0, iI_eq1, lI_lt0, lI_le0, lI_0lt, lI_0le, lI_eq0, ix_cl, ix_iff, upd_iI, updL_lI, lI_divF, lI_remF, iI_divF, iI_remF, em_eq, Int.not_lt, Int.not_le, true_implies, false_implies, and_true, true_and, not_true_eq_false, not_false_eq_true, true_or, or_true, or_false, false_or])); (conv => whnf)
  refine ⟨⟨by decide, (by
    (conv => whnf)
    exact ⟨fun j q hj => Or.inl (Nat.lt_of_lt_of_le (hrf j q hj) (Nat.le_of_ble_eq_true rfl)), (by (conv => whnf); exact trivial)⟩)⟩, ?_⟩
  (repeat ((conv => whnf); simp (disch := omega) only [Int.cast_ofNat_Int, Int.reduceToNat, iI_tt, Int.toNat_natCast, iI_add, iI_sub, iI_mul, iI_neg, lI_add, lI_sub, lI_mul, lI_neg, i2l_, l2i_, iI_lt, iI_le, iI_eq, lI_lt, lI_le, lI_eq, iI_lt0, iI_le0, iI_0lt, iI_0le, iI_eq0, iI_eq1, lI_lt0, lI_le0, lI_0lt, lI_0le, lI_eq0, ix_cl, ix_iff, upd_iI, updL_lI, lI_divF, lI_remF, iI_divF, iI_remF, em_eq, Int.not_lt, Int.not_le, true_implies, false_implies, and_true, true_and, not_true_eq_false, not_false_eq_true, true_or, or_true, or_false, false_or])); (conv => whnf)
  refine ⟨⟨by decide, by decide⟩, ?_⟩
  refine WQ_fr [81] [.inr (6, [.null, .null, .int (iI 0), .long (lI 0)])] [.ref 0] rfl rfl rfl rfl ?_
  refine c_Sc_init ?_
  refine frK_new (bWp_ok _ (by
    (conv => whnf)
    exact ⟨fun j q hj => Or.inl (Nat.lt_of_lt_of_le (hrf j q hj) (Nat.le_of_ble_eq_true rfl)), (by (conv => whnf); exact trivial)⟩)) ?_
  (repeat ((conv => whnf); simp (disch := omega) only [Int.cast_ofNat_Int, Int.reduceToNat, iI_tt, Int.toNat_natCast, iI_add, iI_sub, iI_mul, iI_neg, lI_add, lI_sub, lI_mul, lI_neg, i2l_, l2i_, iI_lt, iI_le, iI_eq, lI_lt, lI_le, lI_eq, iI_lt0, iI_le0, iI_0lt, iI_0le, iI_eq0, iI_eq1, lI_lt0, lI_le0, lI_0lt, lI_0le, lI_eq0, ix_cl, ix_iff, upd_iI, updL_lI, lI_divF, lI_remF, iI_divF, iI_remF, em_eq, Int.not_lt, Int.not_le, true_implies, false_implies, and_true, true_and, not_true_eq_false, not_false_eq_true, true_or, or_true, or_false, false_or])); (conv => whnf)
  refine ⟨⟨by decide, (by
    (conv => whnf)
    exact ⟨fun j q hj => Or.inl (Nat.lt_of_lt_of_le (hrf j q hj) (Nat.le_of_ble_eq_true rfl)), (by (conv => whnf); exact trivial)⟩)⟩, ?_⟩
  (repeat ((conv => whnf); simp (disch := omega) only [Int.cast_ofNat_Int, Int.reduceToNat, iI_tt, Int.toNat_natCast, iI_add, iI_sub, iI_mul, iI_neg, lI_add, lI_sub, lI_mul, lI_neg, i2l_, l2i_, iI_lt, iI_le, iI_eq, lI_lt, lI_le, lI_eq, iI_lt0, iI_le0, iI_0lt, iI_0le, iI_eq0, iI_eq1, lI_lt0, lI_le0, lI_0lt, lI_0le, lI_eq0, ix_cl, ix_iff, upd_iI, updL_lI, lI_divF, lI_remF, iI_divF, iI_remF, em_eq, Int.not_lt, Int.not_le, true_implies, false_implies, and_true, true_and, not_true_eq_false, not_false_eq_true, true_or, or_true, or_false, false_or])); (conv => whnf)
  refine ⟨⟨by decide, by decide⟩, ?_⟩
  refine WQ_fr [91] [.inr (9, [.null, .int (iI 0), .int (iI 0), .int (iI 0)])] [.ref 0] rfl rfl rfl rfl ?_
  refine c_jSB_init ?_
  refine frK_new (bWp_ok _ (by
    (conv => whnf)
    exact ⟨fun j q hj => Or.inl (Nat.lt_of_lt_of_le (hrf j q hj) (Nat.le_of_ble_eq_true rfl)), (by (conv => whnf); exact trivial)⟩)) ?_
  (repeat ((conv => whnf); simp (disch := omega) only [Int.cast_ofNat_Int, Int.reduceToNat, iI_tt, Int.toNat_natCast, iI_add, iI_sub, iI_mul, iI_neg, lI_add, lI_sub, lI_mul, lI_neg, i2l_, l2i_, iI_lt, iI_le, iI_eq, lI_lt, lI_le, lI_eq, iI_lt0, iI_le0, iI_0lt, iI_0le, iI_eq0, iI_eq1, lI_lt0, lI_le0, lI_0lt, lI_0le, lI_eq0, ix_cl, ix_iff, upd_iI, updL_lI, lI_divF, lI_remF, iI_divF, iI_remF, em_eq, Int.not_lt, Int.not_le, true_implies, false_implies, and_true, true_and, not_true_eq_false, not_false_eq_true, true_or, or_true, or_false, false_or])); (conv => whnf)
  exact h
