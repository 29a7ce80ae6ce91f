/-! THE CLASS: its constructor, whole: the moduli 7, 11, 13 -/
def md_1 : Nat → Int := insF 0 0 7 z0
def md_2 : Nat → Int := insF 1 1 11 md_1
def md_3 : Nat → Int := insF 2 2 13 md_2
theorem md3_v : md_3 0 = 7 ∧ md_3 1 = 11 ∧ md_3 2 = 13 := by decide +kernel
theorem md_PN : PN md_1 1 = 7 ∧ PN md_2 2 = 77 ∧ PN md_3 3 = 1001 ∧ PN md_3 2 = 77 := by decide +kernel
theorem md1_b : ∀ k : Nat, (k : Int) < 1 → 2 ≤ md_1 k ∧ md_1 k ≤ 97 := by
  intro k hk
  have e : k = 0 := by omega
  subst e
  decide +kernel
theorem md2_b : ∀ k : Nat, (k : Int) < 2 → 2 ≤ md_2 k ∧ md_2 k ≤ 97 := by
  intro k hk
  have e : k = 0 ∨ k = 1 := by omega
  rcases e with rfl | rfl <;> decide +kernel
theorem md3_b : ∀ k : Nat, (k : Int) < 3 → 2 ≤ md_3 k ∧ md_3 k ≤ 97 := by
  intro k hk
  have e : k = 0 ∨ k = 1 ∨ k = 2 := by omega
  rcases e with rfl | rfl | rfl <;> decide +kernel
theorem md3_cop : Cop md_3 3 := by
  intro j k hj hk
  have e : (j = 0 ∧ k = 1) ∨ (j = 0 ∧ k = 2) ∨ (j = 1 ∧ k = 2) := by omega
  rcases e with ⟨rfl, rfl⟩ | ⟨rfl, rfl⟩ | ⟨rfl, rfl⟩ <;> decide +kernel
theorem md3_ok : MdOk 3 md_3 := ⟨⟨by decide, by decide⟩, by rw [show (3 : Int).toNat = 3 from rfl, md_PN.2.2.1]; decide, md3_b, md3_cop⟩
set_option maxRecDepth 8000 in
theorem R_i3 {d : Nat} {K : Option Value → PW → Prop} {KX : String → PW → Prop} {rf : Nat → Option Nat} (h : ∀ wt, MOk 3 1 1001 77 md_3 wt z0 → K none (rW (fun _ => 0) 0 (mkM 3 1 0 1001 77 md_3 wt z0 z0) MZ MZ 0 0 0 rf (fun _ => MZ) TZ TZ 0 0 PZ 0 (-1) 92 0 0 (byt 16 z0) [])) : GO M_R_init (d + 6) 0 0 100 [some (.ref 0)] [] (rW (fun _ => 0) 0 MZ MZ MZ 0 0 0 rf (fun _ => MZ) TZ TZ 0 0 PZ 0 (-1) 92 0 0 (byt 16 z0) []) K KX := by
  refine run k_R_init [] 900 ?_
  (repeat ((conv => whnf); simp (disch := omega) only [Int.cast_ofNat_Int, Int.reduceToNat, iI_tt, Int.toNat_natCast, iI_add, iI_sub, iI_mul, iI_neg, lI_add, lI_sub, lI_mul, lI_neg, i2l_, l2i_, iI_lt, iI_le, iI_eq, lI_lt, lI_le, lI_eq, iI_lt0, iI_le0, iI_0lt, iI_0le, iI_eq0, iI_eq1, lI_lt0, lI_le0, lI_0lt, lI_0le, lI_eq0, ix_cl, ix_iff, upd_iI, updL_lI, lI_divF, lI_remF, iI_divF, iI_remF, em_eq, Int.not_lt, Int.not_le, true_implies, false_implies, and_true, true_and, not_true_eq_false, not_false_eq_true, true_or, or_true, or_false, false_or])); (conv => whnf)
  refine WQ_fr [3, 4, 5] (moW 0 0 1 1 z0 z0) [.ref 0, .int (iI 7)] rfl rfl rfl rfl ?_
  refine c_Mo_insert (by decide) (by decide) (by decide) (by decide) (by show PN md_1 1 ≤ 1000000000; rw [md_PN.1]; decide) md1_b (fun wt1 w1 => ?_)
  (repeat ((conv => whnf); simp (disch := omega) only [Int.cast_ofNat_Int, Int.reduceToNat, iI_tt, Int.toNat_natCast, iI_add, iI_sub, iI_mul, iI_neg, lI_add, lI_sub, lI_mul, lI_neg, i2l_, l2i_, iI_lt, iI_le, iI_eq, lI_lt, lI_le, lI_eq, iI_lt0, iI_le0, iI_0lt, iI_0le, iI_eq0, iI_eq1, lI_lt0, lI_le0, lI_0lt, lI_0le, lI_eq0, ix_cl, ix_iff, upd_iI, updL_lI, lI_divF, lI_remF, iI_divF, iI_remF, em_eq, Int.not_lt, Int.not_le, true_implies, false_implies, and_true, true_and, not_true_eq_false, not_false_eq_true, true_or, or_true, or_false, false_or])); (conv => whnf)
  refine WQ_fr [3, 4, 5] (moW 1 0 (PN md_1 1) (PN md_1 1) md_1 wt1) [.ref 0, .int (iI 11)] rfl rfl rfl rfl ?_
  refine c_Mo_insert (by decide) (by decide) (by decide) (by decide) (by show PN md_2 2 ≤ 1000000000; rw [md_PN.2.1]; decide) md2_b (fun wt2 w2 => ?_)
  (repeat ((conv => whnf); simp (disch := omega) only [Int.cast_ofNat_Int, Int.reduceToNat, iI_tt, Int.toNat_natCast, iI_add, iI_sub, iI_mul, iI_neg, lI_add, lI_sub, lI_mul, lI_neg, i2l_, l2i_, iI_lt, iI_le, iI_eq, lI_lt, lI_le, lI_eq, iI_lt0, iI_le0, iI_0lt, iI_0le, iI_eq0, iI_eq1, lI_lt0, lI_le0, lI_0lt, lI_0le, lI_eq0, ix_cl, ix_iff, upd_iI, updL_lI, lI_divF, lI_remF, iI_divF, iI_remF, em_eq, Int.not_lt, Int.not_le, true_implies, false_implies, and_true, true_and, not_true_eq_false, not_false_eq_true, true_or, or_true, or_false, false_or])); (conv => whnf)
  refine WQ_fr [3, 4, 5] (moW 2 0 (PN md_2 2) (PN md_2 2) md_2 wt2) [.ref 0, .int (iI 13)] rfl rfl rfl rfl ?_
  refine c_Mo_insert (by decide) (by decide) (by decide) (by decide) (by show PN md_3 3 ≤ 1000000000; rw [md_PN.2.2.1]; decide) md3_b (fun wt3 w3 => ?_)
  (repeat ((conv => whnf); simp (disch := omega) only [Int.cast_ofNat_Int, Int.reduceToNat, iI_tt, Int.toNat_natCast, iI_add, iI_sub, iI_mul, iI_neg, lI_add, lI_sub, lI_mul, lI_neg, i2l_, l2i_, iI_lt, iI_le, iI_eq, lI_lt, lI_le, lI_eq, iI_lt0, iI_le0, iI_0lt, iI_0le, iI_eq0, iI_eq1, lI_lt0, lI_le0, lI_0lt, lI_0le, lI_eq0, ix_cl, ix_iff, upd_iI, updL_lI, lI_divF, lI_remF, iI_divF, iI_remF, em_eq, Int.not_lt, Int.not_le, true_implies, false_implies, and_true, true_and, not_true_eq_false, not_false_eq_true, true_or, or_true, or_false, false_or])); (conv => whnf)
  refine WQ_fr [3, 4, 5] (moW 3 0 (PN md_3 3) (PN md_3 3) md_3 wt3) [.ref 0, .int (iI 1)] rfl rfl rfl rfl ?_
  refine c_Mo_setChecks (by decide) (by decide) (by decide) (by decide) (by show PN md_3 3 ≤ 1000000000; rw [md_PN.2.2.1]; decide) md3_b (fun wt4 w4 _ => ?_)
  have hM : MOk 3 1 (PN md_3 (3 : Int).toNat) (PN md_3 ((3 : Int) - 1).toNat) md_3 wt4 z0 := MOk_of md3_ok (by decide) ⟨by decide, by decide⟩ w4 (fun r _ => by
    rw [show (3 : Int).toNat = 3 from rfl, md_PN.2.2.1]
    exact (show nin 0 1001 = 0 by decide))
  rw [show (3 : Int).toNat = 3 from rfl, show ((3 : Int) - 1).toNat = 2 from rfl, md_PN.2.2.1, md_PN.2.2.2] at hM
  have fin := h wt4 hM
  rw [show (3 : Int).toNat = 3 from rfl, show ((3 : Int) - 1).toNat = 2 from rfl, md_PN.2.2.1, md_PN.2.2.2]
  (repeat ((conv => whnf); simp (disch := omega) only [Int.cast_ofNat_Int, Int.reduceToNat, iI_tt, Int.toNat_natCast, iI_add, iI_sub, iI_mul, iI_neg, lI_add, lI_sub, lI_mul, lI_neg, i2l_, l2i_, iI_lt, iI_le, iI_eq, lI_lt, lI_le, lI_eq, iI_lt0, iI_le0, iI_0lt, iI_0le, iI_eq0, iI_eq1, lI_lt0, lI_le0, lI_0lt, lI_0le, lI_eq0, ix_cl, ix_iff, upd_iI, updL_lI, lI_divF, lI_remF, iI_divF, iI_remF, em_eq, Int.not_lt, Int.not_le, true_implies, false_implies, and_true, true_and, not_true_eq_false, not_false_eq_true, true_or, or_true, or_false, false_or])); (conv => whnf)
  exact fin
theorem c_R_init {d : Nat} {K : Option Value → PW → Prop} {KX : String → PW → Prop} (h : ∀ (rf : Nat → Option Nat) wt, RFok rf → (∀ j q, rf j = some q → q < 76) → MOk 3 1 1001 77 md_3 wt z0 → K none (rW (fun _ => 0) 0 (mkM 3 1 0 1001 77 md_3 wt z0 z0) MZ MZ 0 0 0 rf (fun _ => MZ) TZ TZ 0 0 PZ 0 (-1) 92 0 0 (byt 16 z0) [])) : WQ M_R_init (d + 6) 92 7051 [.ref 0] [.inr (0, [.null, .int (iI 0), .null, .null, .null, .int (iI 0), .null, .null, .null, .int (iI 0), .int (iI 0), .null])] K KX :=
  R_i1 (fun rf h1 h2 => R_i2 h2 (R_i3 (fun wt hM => h rf wt h1 h2 hM)))
