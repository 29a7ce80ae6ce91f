/-! THE LAW: its start -/
theorem sI9_q {wt : Nat → Int} (hM : MOk 3 1 1001 77 md_3 wt z0) : QOk sI9 3 1 0 1001 77 md_3 wt z0 z0 := by
  refine ⟨⟨⟨by decide, by decide, by decide⟩, fun a ha => ?_, fun k hk => ?_, fun r k hr hk => ?_⟩, hM, by decide, by decide⟩
  · unfold sI9 upI
    rw [if_neg (by omega), if_neg (by omega), if_neg (by omega), if_neg (by omega), if_neg (by omega)]
    rfl
  · have e : k = 0 ∨ k = 1 ∨ k = 2 := by omega
    rcases e with rfl | rfl | rfl <;> decide +kernel
  · unfold sI9 upI
    rw [if_neg (by omega), if_neg (by omega), if_neg (by omega), if_neg (by omega), if_neg (by omega)]
    exact (Int.zero_emod _).symm
theorem LI_0 {rf : Nat → Option Nat} {wt : Nat → Int} (h1 : RFok rf) (h2 : ∀ j q, rf j = some q → q < 76) (hM : MOk 3 1 1001 77 md_3 wt z0) : LI 0 (mkM 3 1 0 1001 77 md_3 wt z0 z0) MZ 0 0 0 rf (fun _ => MZ) 92 0 (byt 16 z0) sI9 z0 z0 z0 0 [] :=
  ⟨⟨⟨h1, h2⟩, by decide, by decide, by decide⟩, sI9_q hM, HP_nil, Or.inl rfl, [], z0, fun _ => (show (0 : Int) ≤ 0 ∧ (0 : Int) ≤ 127 by decide), OW.nil, OW.nil, by decide, Or.inl ⟨rfl, rfl, rfl, by decide⟩⟩
set_option maxRecDepth 8000 in
theorem law_2 {K : Option Value → PW → Prop} {KX : String → PW → Prop} {L d : Nat} {xs : Nat → Int32} {rf : Nat → Option Nat} {wt : Nat → Int} (hL : L ≤ 3072) (hK : ∀ w, K (some (.int (iI 1))) w) (hr9 : RFok rf) (hrf : ∀ j q, rf j = some q → q < 76) (hM : MOk 3 1 1001 77 md_3 wt z0) : GOn 0 (gS L xs) M_Lw_law (d + 120) 907 7000000 8 [some (.ref 3300), some (.ref 0)] [] (rW (fun _ => 0) 0 (mkM 3 1 0 1001 77 md_3 wt z0 z0) MZ MZ 0 0 0 rf (fun _ => MZ) TZ TZ 0 0 PZ 0 (-1) 92 0 0 (byt 16 z0) []) K KX := by
  have fin := law_loop (d := d) (KX := KX) (xs := xs) hL hK 512 893 6990000 0 (fun _ => 0) 0 (mkM 3 1 0 1001 77 md_3 wt z0 z0) MZ MZ 0 0 0 rf (fun _ => MZ) TZ TZ 0 0 PZ 0 (-1) 92 0 0 (byt 16 z0) 0 sI9 z0 z0 z0 z0 0 0 0 0 0 z0 0 z0 z0 0 0 0 z0 0 z0 z0 0 z0 [] (LI_0 hr9 hrf hM) (by decide) (by decide) (by omega) (by decide) (by decide)
  unfold LL at fin
  refine runP (k_Lw_law_0 L xs) [23] 900 ?_
  (repeat ((conv => whnf); simp (disch := omega) only [Int.cast_ofNat_Int, Int.reduceToNat, iI_tt, Int.toNat_natCast, iI_add, iI_sub, iI_mul, iI_neg, lI_add, lI_sub, lI_mul, lI_neg, i2l_, l2i_, iI_lt, iI_le, iI_eq, lI_lt, lI_le, lI_eq, iI_lt0, iI_le0, iI_0lt, iI_0le, iI_eq0, iI_eq1, lI_lt0, lI_le0, lI_0lt, lI_0le, lI_eq0, ix_cl, ix_iff, upd_iI, updL_lI, lI_divF, lI_remF, iI_divF, iI_remF, em_eq, Int.not_lt, Int.not_le, true_implies, false_implies, and_true, true_and, not_true_eq_false, not_false_eq_true, true_or, or_true, or_false, false_or])); (conv => whnf)
  refine ⟨⟨by decide, (by
    (conv => whnf)
    exact ⟨fun j q hj => Or.inl (Nat.lt_of_lt_of_le (hrf j q hj) (Nat.le_of_ble_eq_true rfl)), (by (conv => whnf); exact trivial)⟩)⟩, ?_⟩
  (repeat ((conv => whnf); simp (disch := omega) only [Int.cast_ofNat_Int, Int.reduceToNat, iI_tt, Int.toNat_natCast, iI_add, iI_sub, iI_mul, iI_neg, lI_add, lI_sub, lI_mul, lI_neg, i2l_, l2i_, iI_lt, iI_le, iI_eq, lI_lt, lI_le, lI_eq, iI_lt0, iI_le0, iI_0lt, iI_0le, iI_eq0, iI_eq1, lI_lt0, lI_le0, lI_0lt, lI_0le, lI_eq0, ix_cl, ix_iff, upd_iI, updL_lI, lI_divF, lI_remF, iI_divF, iI_remF, em_eq, Int.not_lt, Int.not_le, true_implies, false_implies, and_true, true_and, not_true_eq_false, not_false_eq_true, true_or, or_true, or_false, false_or])); (conv => whnf)
  refine ⟨⟨by decide, by decide⟩, ?_⟩
  refine WQ_fr [93] [.inr (8, [.int (iI 0), .null, .null, .null, .null, .int (iI 0), .int (iI 0), .null, .null, .int (iI 0), .int (iI 0), .int (iI 0), .int (iI 0), .int (iI 0), .int (iI 0), .int (iI 0), .int (iI 0), .null, .int (iI 0), .null, .null, .int (iI 0), .int (iI 0), .int (iI 0), .null, .int (iI 0), .null, .null, .int (iI 0)])] [.ref 0] rfl rfl rfl rfl ?_
  refine c_Mm_init ?_
  refine frK_new (bWp_ok _ (by
    (conv => whnf)
    exact ⟨fun j q hj => Or.inl (Nat.lt_of_lt_of_le (hrf j q hj) (Nat.le_of_ble_eq_true rfl)), (by (conv => whnf); exact trivial)⟩)) ?_
  show kRc _ _ _ _ _ _ _ none (rW (fun _ => 0) 0 (mkM 3 1 0 1001 77 md_3 wt z0 z0) MZ MZ 0 0 0 rf (fun _ => MZ) TZ TZ 0 0 PZ 0 (-1) 92 0 0 (byt 16 z0) (mmL 0 sI9 z0 z0 z0 0 0 z0 (fun _ => 0) 0 0 (-1) 0 0 0 0 0 z0 0 z0 z0 0 0 0 z0 0 z0 z0 0))
  (repeat ((conv => whnf); simp (disch := omega) only [Int.cast_ofNat_Int, Int.reduceToNat, iI_tt, Int.toNat_natCast, iI_add, iI_sub, iI_mul, iI_neg, lI_add, lI_sub, lI_mul, lI_neg, i2l_, l2i_, iI_lt, iI_le, iI_eq, lI_lt, lI_le, lI_eq, iI_lt0, iI_le0, iI_0lt, iI_0le, iI_eq0, iI_eq1, lI_lt0, lI_le0, lI_0lt, lI_0le, lI_eq0, ix_cl, ix_iff, upd_iI, updL_lI, lI_divF, lI_remF, iI_divF, iI_remF, em_eq, Int.not_lt, Int.not_le, true_implies, false_implies, and_true, true_and, not_true_eq_false, not_false_eq_true, true_or, or_true, or_false, false_or])); (conv => whnf)
  refine ⟨⟨by decide +kernel, by decide +kernel⟩, ?_⟩
  (repeat ((conv => whnf); simp (disch := omega) only [Int.cast_ofNat_Int, Int.reduceToNat, iI_tt, Int.toNat_natCast, iI_add, iI_sub, iI_mul, iI_neg, lI_add, lI_sub, lI_mul, lI_neg, i2l_, l2i_, iI_lt, iI_le, iI_eq, lI_lt, lI_le, lI_eq, iI_lt0, iI_le0, iI_0lt, iI_0le, iI_eq0, iI_eq1, lI_lt0, lI_le0, lI_0lt, lI_0le, lI_eq0, ix_cl, ix_iff, upd_iI, updL_lI, lI_divF, lI_remF, iI_divF, iI_remF, em_eq, Int.not_lt, Int.not_le, true_implies, false_implies, and_true, true_and, not_true_eq_false, not_false_eq_true, true_or, or_true, or_false, false_or])); (conv => whnf)
  refine ⟨⟨by decide +kernel, (by
    (conv => whnf)
    exact ⟨fun j q hj => Or.inl (Nat.lt_of_lt_of_le (hrf j q hj) (Nat.le_of_ble_eq_true rfl)), (by (conv => whnf); exact trivial)⟩)⟩, ?_⟩
  (repeat ((conv => whnf); simp (disch := omega) only [Int.cast_ofNat_Int, Int.reduceToNat, iI_tt, Int.toNat_natCast, iI_add, iI_sub, iI_mul, iI_neg, lI_add, lI_sub, lI_mul, lI_neg, i2l_, l2i_, iI_lt, iI_le, iI_eq, lI_lt, lI_le, lI_eq, iI_lt0, iI_le0, iI_0lt, iI_0le, iI_eq0, iI_eq1, lI_lt0, lI_le0, lI_0lt, lI_0le, lI_eq0, ix_cl, ix_iff, upd_iI, updL_lI, lI_divF, lI_remF, iI_divF, iI_remF, em_eq, Int.not_lt, Int.not_le, true_implies, false_implies, and_true, true_and, not_true_eq_false, not_false_eq_true, true_or, or_true, or_false, false_or])); (conv => whnf)
  exact GOn_le (Nat.le_of_ble_eq_true rfl) (Nat.le_of_ble_eq_true rfl) fin
theorem law_all {K : Option Value → PW → Prop} {KX : String → PW → Prop} {L d : Nat} {xs : Nat → Int32} (hL : L ≤ 3072) (hK : ∀ w, K (some (.int (iI 1))) w) : GOn 0 (gS L xs) M_Lw_law (d + 120) 1000 7293034 0 [some (.ref 3300)] [] [] K KX := by
  refine runP (k_Lw_law_0 L xs) [8] 900 ?_
  (repeat ((conv => whnf); simp (disch := omega) only [Int.cast_ofNat_Int, Int.reduceToNat, iI_tt, Int.toNat_natCast, iI_add, iI_sub, iI_mul, iI_neg, lI_add, lI_sub, lI_mul, lI_neg, i2l_, l2i_, iI_lt, iI_le, iI_eq, lI_lt, lI_le, lI_eq, iI_lt0, iI_le0, iI_0lt, iI_0le, iI_eq0, iI_eq1, lI_lt0, lI_le0, lI_0lt, lI_0le, lI_eq0, ix_cl, ix_iff, upd_iI, updL_lI, lI_divF, lI_remF, iI_divF, iI_remF, em_eq, Int.not_lt, Int.not_le, true_implies, false_implies, and_true, true_and, not_true_eq_false, not_false_eq_true, true_or, or_true, or_false, false_or])); (conv => whnf)
  repeat' ((first | (refine ⟨fun _ => ?_, fun hb => absurd hb (by omega)⟩) | (refine ⟨fun hb => absurd hb (by omega), fun _ => ?_⟩) | (refine ⟨by omega, ?_⟩) | (refine ⟨⟨by omega, (by (conv => whnf); exact trivial)⟩, ?_⟩) | (refine ⟨(Nat.le_of_ble_eq_true rfl), bWp_ok _ (by (conv => whnf); exact trivial), ?_⟩) | (refine ⟨fun _ => ?_, fun _ => ?_⟩) | fail) <;> ((repeat ((conv => whnf); simp (disch := omega) only [Int.cast_ofNat_Int, Int.reduceToNat, iI_tt, Int.toNat_natCast, iI_add, iI_sub, iI_mul, iI_neg, lI_add, lI_sub, lI_mul, lI_neg, i2l_, l2i_, iI_lt, iI_le, iI_eq, lI_lt, lI_le, lI_eq, iI_lt0, iI_le0, iI_0lt, iI_0le, iI_eq0, iI_eq1, lI_lt0, lI_le0, lI_0lt, lI_0le, lI_eq0, ix_cl, ix_iff, upd_iI, updL_lI, lI_divF, lI_remF, iI_divF, iI_remF, em_eq, Int.not_lt, Int.not_le, true_implies, false_implies, and_true, true_and, not_true_eq_false, not_false_eq_true, true_or, or_true, or_false, false_or])); (conv => whnf)))
  refine c_R_init (d := d + 113) (fun rf wt h1 h2 hM => ?_)
  (repeat ((conv => whnf); simp (disch := omega) only [Int.cast_ofNat_Int, Int.reduceToNat, iI_tt, Int.toNat_natCast, iI_add, iI_sub, iI_mul, iI_neg, lI_add, lI_sub, lI_mul, lI_neg, i2l_, l2i_, iI_lt, iI_le, iI_eq, lI_lt, lI_le, lI_eq, iI_lt0, iI_le0, iI_0lt, iI_0le, iI_eq0, iI_eq1, lI_lt0, lI_le0, lI_0lt, lI_0le, lI_eq0, ix_cl, ix_iff, upd_iI, updL_lI, lI_divF, lI_remF, iI_divF, iI_remF, em_eq, Int.not_lt, Int.not_le, true_implies, false_implies, and_true, true_and, not_true_eq_false, not_false_eq_true, true_or, or_true, or_false, false_or])); (conv => whnf)
  exact GOn_le (Nat.le_of_ble_eq_true rfl) (Nat.le_of_ble_eq_true rfl) (law_2 hL hK h1 h2 hM)
