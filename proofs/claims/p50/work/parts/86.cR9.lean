/-! THE CLASS: its methods where they are called rightly -/
theorem g_R_value {d mc ms : Nat} {b9 : va_E} {f : Nat → Int32} {il hs nx cz sm sh le lo cn ml : Int} {m1 m2 m3 : MS} {rf : Nat → Option Nat} {sl : Nat → MS} {t1 t2 : TS} {pg : PS} {sv : Nat} {tl : PW} {n ck st wh rg : Int} {md wt num acc : Nat → Int} {K : Option Value → PW → Prop} {KX : String → PW → Prop} {r : Int} (hB : MB n ck wh rg md wt num) (hr9 : r32 r)
    (qf : (0 ≤ r ∧ r < 8))
    (t9 : 0 ≤ r ∧ r < 8 → K (some (.long (lI (num r.toNat % wh)))) (rW f il ((mkM n ck st wh rg md wt num acc)) m2 m3 hs nx cz rf sl t1 t2 sm sh pg le lo sv cn ml b9 tl)) : WQ M_R_value (d + 7) mc ms [.ref 0, .int (iI r)] (rW f il ((mkM n ck st wh rg md wt num acc)) m2 m3 hs nx cz rf sl t1 t2 sm sh pg le lo sv cn ml b9 tl) K KX := by
  refine methC (pf_R rfl) (tz_R rfl) rfl ?_
  refine run k_R_value [] 900 ?_
  (repeat ((conv => whnf); simp (disch := omega) only [Int.cast_ofNat_Int, Int.reduceToNat, iI_tt, Int.toNat_natCast, iI_add, iI_sub, iI_mul, iI_neg, lI_add, lI_sub, lI_mul, lI_neg, i2l_, l2i_, iI_lt, iI_le, iI_eq, lI_lt, lI_le, lI_eq, iI_lt0, iI_le0, iI_0lt, iI_0le, iI_eq0, iI_eq1, lI_lt0, lI_le0, lI_0lt, lI_0le, lI_eq0, ix_cl, ix_iff, upd_iI, updL_lI, lI_divF, lI_remF, iI_divF, iI_remF, em_eq, Int.not_lt, Int.not_le, true_implies, false_implies, and_true, true_and, not_true_eq_false, not_false_eq_true, true_or, or_true, or_false, false_or])); (conv => whnf)
  by_cases e1 : 0 ≤ r ∧ r < 8
  · have t9 := t9 e1
    refine Or.inl ?_
    refine c_R_needRegG e1 ?_
    (repeat ((conv => whnf); simp (disch := omega) only [Int.cast_ofNat_Int, Int.reduceToNat, iI_tt, Int.toNat_natCast, iI_add, iI_sub, iI_mul, iI_neg, lI_add, lI_sub, lI_mul, lI_neg, i2l_, l2i_, iI_lt, iI_le, iI_eq, lI_lt, lI_le, lI_eq, iI_lt0, iI_le0, iI_0lt, iI_0le, iI_eq0, iI_eq1, lI_lt0, lI_le0, lI_0lt, lI_0le, lI_eq0, ix_cl, ix_iff, upd_iI, updL_lI, lI_divF, lI_remF, iI_divF, iI_remF, em_eq, Int.not_lt, Int.not_le, true_implies, false_implies, and_true, true_and, not_true_eq_false, not_false_eq_true, true_or, or_true, or_false, false_or])); (conv => whnf)
    refine WQ_fr [2, 3, 4, 5, 6, 7] (mlW n ck st wh rg md wt num acc) [.ref 0, .int (iI r)] rfl rfl rfl rfl ?_
    refine c_Ml_valueAt hB e1.1 e1.2 ?_
    (repeat ((conv => whnf); simp (disch := omega) only [Int.cast_ofNat_Int, Int.reduceToNat, iI_tt, Int.toNat_natCast, iI_add, iI_sub, iI_mul, iI_neg, lI_add, lI_sub, lI_mul, lI_neg, i2l_, l2i_, iI_lt, iI_le, iI_eq, lI_lt, lI_le, lI_eq, iI_lt0, iI_le0, iI_0lt, iI_0le, iI_eq0, iI_eq1, lI_lt0, lI_le0, lI_0lt, lI_0le, lI_eq0, ix_cl, ix_iff, upd_iI, updL_lI, lI_divF, lI_remF, iI_divF, iI_remF, em_eq, Int.not_lt, Int.not_le, true_implies, false_implies, and_true, true_and, not_true_eq_false, not_false_eq_true, true_or, or_true, or_false, false_or])); (conv => whnf)
    exact t9
  · exfalso; omega
theorem g_R_number {d mc ms : Nat} {b9 : va_E} {f : Nat → Int32} {il hs nx cz sm sh le lo cn ml : Int} {m1 m2 m3 : MS} {rf : Nat → Option Nat} {sl : Nat → MS} {t1 t2 : TS} {pg : PS} {sv : Nat} {tl : PW} {n ck st wh rg : Int} {md wt num acc : Nat → Int} {K : Option Value → PW → Prop} {KX : String → PW → Prop} {r : Int} (hB : MB n ck wh rg md wt num) (hr9 : r32 r)
    (qf : (0 ≤ r ∧ r < 8))
    (t9 : 0 ≤ r ∧ r < 8 → K (some (.long (lI (num r.toNat)))) (rW f il ((mkM n ck st wh rg md wt num acc)) m2 m3 hs nx cz rf sl t1 t2 sm sh pg le lo sv cn ml b9 tl)) : WQ M_R_number (d + 7) mc ms [.ref 0, .int (iI r)] (rW f il ((mkM n ck st wh rg md wt num acc)) m2 m3 hs nx cz rf sl t1 t2 sm sh pg le lo sv cn ml b9 tl) K KX := by
  refine methC (pf_R rfl) (tz_R rfl) rfl ?_
  refine run k_R_number [] 900 ?_
  (repeat ((conv => whnf); simp (disch := omega) only [Int.cast_ofNat_Int, Int.reduceToNat, iI_tt, Int.toNat_natCast, iI_add, iI_sub, iI_mul, iI_neg, lI_add, lI_sub, lI_mul, lI_neg, i2l_, l2i_, iI_lt, iI_le, iI_eq, lI_lt, lI_le, lI_eq, iI_lt0, iI_le0, iI_0lt, iI_0le, iI_eq0, iI_eq1, lI_lt0, lI_le0, lI_0lt, lI_0le, lI_eq0, ix_cl, ix_iff, upd_iI, updL_lI, lI_divF, lI_remF, iI_divF, iI_remF, em_eq, Int.not_lt, Int.not_le, true_implies, false_implies, and_true, true_and, not_true_eq_false, not_false_eq_true, true_or, or_true, or_false, false_or])); (conv => whnf)
  by_cases e1 : 0 ≤ r ∧ r < 8
  · have t9 := t9 e1
    refine Or.inl ?_
    refine c_R_needRegG e1 ?_
    (repeat ((conv => whnf); simp (disch := omega) only [Int.cast_ofNat_Int, Int.reduceToNat, iI_tt, Int.toNat_natCast, iI_add, iI_sub, iI_mul, iI_neg, lI_add, lI_sub, lI_mul, lI_neg, i2l_, l2i_, iI_lt, iI_le, iI_eq, lI_lt, lI_le, lI_eq, iI_lt0, iI_le0, iI_0lt, iI_0le, iI_eq0, iI_eq1, lI_lt0, lI_le0, lI_0lt, lI_0le, lI_eq0, ix_cl, ix_iff, upd_iI, updL_lI, lI_divF, lI_remF, iI_divF, iI_remF, em_eq, Int.not_lt, Int.not_le, true_implies, false_implies, and_true, true_and, not_true_eq_false, not_false_eq_true, true_or, or_true, or_false, false_or])); (conv => whnf)
    refine WQ_fr [2, 3, 4, 5, 6, 7] (mlW n ck st wh rg md wt num acc) [.ref 0, .int (iI r)] rfl rfl rfl rfl ?_
    refine c_Ml_numberAt e1.1 e1.2 ?_
    (repeat ((conv => whnf); simp (disch := omega) only [Int.cast_ofNat_Int, Int.reduceToNat, iI_tt, Int.toNat_natCast, iI_add, iI_sub, iI_mul, iI_neg, lI_add, lI_sub, lI_mul, lI_neg, i2l_, l2i_, iI_lt, iI_le, iI_eq, lI_lt, lI_le, lI_eq, iI_lt0, iI_le0, iI_0lt, iI_0le, iI_eq0, iI_eq1, lI_lt0, lI_le0, lI_0lt, lI_0le, lI_eq0, ix_cl, ix_iff, upd_iI, updL_lI, lI_divF, lI_remF, iI_divF, iI_remF, em_eq, Int.not_lt, Int.not_le, true_implies, false_implies, and_true, true_and, not_true_eq_false, not_false_eq_true, true_or, or_true, or_false, false_or])); (conv => whnf)
    exact t9
  · exfalso; omega
theorem g_R_rest {d mc ms : Nat} {b9 : va_E} {f : Nat → Int32} {il hs nx cz sm sh le lo cn ml : Int} {m1 m2 m3 : MS} {rf : Nat → Option Nat} {sl : Nat → MS} {t1 t2 : TS} {pg : PS} {sv : Nat} {tl : PW} {n ck st wh rg : Int} {md wt num acc : Nat → Int} {K : Option Value → PW → Prop} {KX : String → PW → Prop} {r k : Int} (hB : MB n ck wh rg md wt num) (hr9 : r32 r) (hk9 : r32 k)
    (qf : ((0 ≤ r ∧ r < 8) ∧ 0 ≤ k ∧ k < n))
    (t9 : (0 ≤ r ∧ r < 8) ∧ 0 ≤ k ∧ k < n → K (some (.int (iI (num r.toNat % md k.toNat)))) (rW f il ((mkM n ck st wh rg md wt num acc)) m2 m3 hs nx cz rf sl t1 t2 sm sh pg le lo sv cn ml b9 tl)) : WQ M_R_rest (d + 7) mc ms [.ref 0, .int (iI r), .int (iI k)] (rW f il ((mkM n ck st wh rg md wt num acc)) m2 m3 hs nx cz rf sl t1 t2 sm sh pg le lo sv cn ml b9 tl) K KX := by
  have hb := hB.1
  refine methC (pf_R rfl) (tz_R rfl) rfl ?_
  refine run k_R_rest [] 900 ?_
  (repeat ((conv => whnf); simp (disch := omega) only [Int.cast_ofNat_Int, Int.reduceToNat, iI_tt, Int.toNat_natCast, iI_add, iI_sub, iI_mul, iI_neg, lI_add, lI_sub, lI_mul, lI_neg, i2l_, l2i_, iI_lt, iI_le, iI_eq, lI_lt, lI_le, lI_eq, iI_lt0, iI_le0, iI_0lt, iI_0le, iI_eq0, iI_eq1, lI_lt0, lI_le0, lI_0lt, lI_0le, lI_eq0, ix_cl, ix_iff, upd_iI, updL_lI, lI_divF, lI_remF, iI_divF, iI_remF, em_eq, Int.not_lt, Int.not_le, true_implies, false_implies, and_true, true_and, not_true_eq_false, not_false_eq_true, true_or, or_true, or_false, false_or])); (conv => whnf)
  by_cases e1 : 0 ≤ r ∧ r < 8
  · refine Or.inl ?_
    refine c_R_needRegG e1 ?_
    (repeat ((conv => whnf); simp (disch := omega) only [Int.cast_ofNat_Int, Int.reduceToNat, iI_tt, Int.toNat_natCast, iI_add, iI_sub, iI_mul, iI_neg, lI_add, lI_sub, lI_mul, lI_neg, i2l_, l2i_, iI_lt, iI_le, iI_eq, lI_lt, lI_le, lI_eq, iI_lt0, iI_le0, iI_0lt, iI_0le, iI_eq0, iI_eq1, lI_lt0, lI_le0, lI_0lt, lI_0le, lI_eq0, ix_cl, ix_iff, upd_iI, updL_lI, lI_divF, lI_remF, iI_divF, iI_remF, em_eq, Int.not_lt, Int.not_le, true_implies, false_implies, and_true, true_and, not_true_eq_false, not_false_eq_true, true_or, or_true, or_false, false_or])); (conv => whnf)
    by_cases e2 : 0 ≤ k ∧ k < n
    · have t9 := t9 ⟨e1, e2⟩
      refine Or.inl ?_
      refine c_R_needModG (m1 := m1) hb.2.1 e2 ?_
      (repeat ((conv => whnf); simp (disch := omega) only [Int.cast_ofNat_Int, Int.reduceToNat, iI_tt, Int.toNat_natCast, iI_add, iI_sub, iI_mul, iI_neg, lI_add, lI_sub, lI_mul, lI_neg, i2l_, l2i_, iI_lt, iI_le, iI_eq, lI_lt, lI_le, lI_eq, iI_lt0, iI_le0, iI_0lt, iI_0le, iI_eq0, iI_eq1, lI_lt0, lI_le0, lI_0lt, lI_0le, lI_eq0, ix_cl, ix_iff, upd_iI, updL_lI, lI_divF, lI_remF, iI_divF, iI_remF, em_eq, Int.not_lt, Int.not_le, true_implies, false_implies, and_true, true_and, not_true_eq_false, not_false_eq_true, true_or, or_true, or_false, false_or])); (conv => whnf)
      refine WQ_fr [2, 3, 4, 5, 6, 7] (mlW n ck st wh rg md wt num acc) [.ref 0, .int (iI r), .int (iI k)] rfl rfl rfl rfl ?_
      refine c_Ml_restAt hB e1.1 e1.2 e2.1 e2.2 ?_
      (repeat ((conv => whnf); simp (disch := omega) only [Int.cast_ofNat_Int, Int.reduceToNat, iI_tt, Int.toNat_natCast, iI_add, iI_sub, iI_mul, iI_neg, lI_add, lI_sub, lI_mul, lI_neg, i2l_, l2i_, iI_lt, iI_le, iI_eq, lI_lt, lI_le, lI_eq, iI_lt0, iI_le0, iI_0lt, iI_0le, iI_eq0, iI_eq1, lI_lt0, lI_le0, lI_0lt, lI_0le, lI_eq0, ix_cl, ix_iff, upd_iI, updL_lI, lI_divF, lI_remF, iI_divF, iI_remF, em_eq, Int.not_lt, Int.not_le, true_implies, false_implies, and_true, true_and, not_true_eq_false, not_false_eq_true, true_or, or_true, or_false, false_or])); (conv => whnf)
      exact t9
    · exfalso; omega
  · exfalso; omega
theorem g_R_digit {d mc ms : Nat} {b9 : va_E} {f : Nat → Int32} {il hs nx cz sm sh le lo cn ml : Int} {m1 m2 m3 : MS} {rf : Nat → Option Nat} {sl : Nat → MS} {t1 t2 : TS} {pg : PS} {sv : Nat} {tl : PW} {n ck st wh rg : Int} {md wt num acc : Nat → Int} {K : Option Value → PW → Prop} {KX : String → PW → Prop} {r k : Int} (hB : MB n ck wh rg md wt num) (hr9 : r32 r) (hk9 : r32 k)
    (qf : ((0 ≤ r ∧ r < 8) ∧ 0 ≤ k ∧ k < n))
    (t9 : (0 ≤ r ∧ r < 8) ∧ 0 ≤ k ∧ k < n → K (some (.int (iI (dgL md (num r.toNat % wh) k.toNat % md k.toNat)))) (rW f il ((mkM n ck st wh rg md wt num acc)) m2 m3 hs nx cz rf sl t1 t2 sm sh pg le lo sv cn ml b9 tl)) : WQ M_R_digit (d + 7) mc ms [.ref 0, .int (iI r), .int (iI k)] (rW f il ((mkM n ck st wh rg md wt num acc)) m2 m3 hs nx cz rf sl t1 t2 sm sh pg le lo sv cn ml b9 tl) K KX := by
  have hb := hB.1
  refine methC (pf_R rfl) (tz_R rfl) rfl ?_
  refine run k_R_digit [] 900 ?_
  (repeat ((conv => whnf); simp (disch := omega) only [Int.cast_ofNat_Int, Int.reduceToNat, iI_tt, Int.toNat_natCast, iI_add, iI_sub, iI_mul, iI_neg, lI_add, lI_sub, lI_mul, lI_neg, i2l_, l2i_, iI_lt, iI_le, iI_eq, lI_lt, lI_le, lI_eq, iI_lt0, iI_le0, iI_0lt, iI_0le, iI_eq0, iI_eq1, lI_lt0, lI_le0, lI_0lt, lI_0le, lI_eq0, ix_cl, ix_iff, upd_iI, updL_lI, lI_divF, lI_remF, iI_divF, iI_remF, em_eq, Int.not_lt, Int.not_le, true_implies, false_implies, and_true, true_and, not_true_eq_false, not_false_eq_true, true_or, or_true, or_false, false_or])); (conv => whnf)
  by_cases e1 : 0 ≤ r ∧ r < 8
  · refine Or.inl ?_
    refine c_R_needRegG e1 ?_
    (repeat ((conv => whnf); simp (disch := omega) only [Int.cast_ofNat_Int, Int.reduceToNat, iI_tt, Int.toNat_natCast, iI_add, iI_sub, iI_mul, iI_neg, lI_add, lI_sub, lI_mul, lI_neg, i2l_, l2i_, iI_lt, iI_le, iI_eq, lI_lt, lI_le, lI_eq, iI_lt0, iI_le0, iI_0lt, iI_0le, iI_eq0, iI_eq1, lI_lt0, lI_le0, lI_0lt, lI_0le, lI_eq0, ix_cl, ix_iff, upd_iI, updL_lI, lI_divF, lI_remF, iI_divF, iI_remF, em_eq, Int.not_lt, Int.not_le, true_implies, false_implies, and_true, true_and, not_true_eq_false, not_false_eq_true, true_or, or_true, or_false, false_or])); (conv => whnf)
    by_cases e2 : 0 ≤ k ∧ k < n
    · have t9 := t9 ⟨e1, e2⟩
      refine Or.inl ?_
      refine c_R_needModG (m1 := m1) hb.2.1 e2 ?_
      (repeat ((conv => whnf); simp (disch := omega) only [Int.cast_ofNat_Int, Int.reduceToNat, iI_tt, Int.toNat_natCast, iI_add, iI_sub, iI_mul, iI_neg, lI_add, lI_sub, lI_mul, lI_neg, i2l_, l2i_, iI_lt, iI_le, iI_eq, lI_lt, lI_le, lI_eq, iI_lt0, iI_le0, iI_0lt, iI_0le, iI_eq0, iI_eq1, lI_lt0, lI_le0, lI_0lt, lI_0le, lI_eq0, ix_cl, ix_iff, upd_iI, updL_lI, lI_divF, lI_remF, iI_divF, iI_remF, em_eq, Int.not_lt, Int.not_le, true_implies, false_implies, and_true, true_and, not_true_eq_false, not_false_eq_true, true_or, or_true, or_false, false_or])); (conv => whnf)
      refine WQ_fr [2, 3, 4, 5, 6, 7] (mlW n ck st wh rg md wt num acc) [.ref 0, .int (iI r), .int (iI k)] rfl rfl rfl rfl ?_
      refine c_Ml_digitAt hB e1.1 e1.2 e2.1 e2.2 ?_
      (repeat ((conv => whnf); simp (disch := omega) only [Int.cast_ofNat_Int, Int.reduceToNat, iI_tt, Int.toNat_natCast, iI_add, iI_sub, iI_mul, iI_neg, lI_add, lI_sub, lI_mul, lI_neg, i2l_, l2i_, iI_lt, iI_le, iI_eq, lI_lt, lI_le, lI_eq, iI_lt0, iI_le0, iI_0lt, iI_0le, iI_eq0, iI_eq1, lI_lt0, lI_le0, lI_0lt, lI_0le, lI_eq0, ix_cl, ix_iff, upd_iI, updL_lI, lI_divF, lI_remF, iI_divF, iI_remF, em_eq, Int.not_lt, Int.not_le, true_implies, false_implies, and_true, true_and, not_true_eq_false, not_false_eq_true, true_or, or_true, or_false, false_or])); (conv => whnf)
      exact t9
    · exfalso; omega
  · exfalso; omega
theorem g_R_part {d mc ms : Nat} {b9 : va_E} {f : Nat → Int32} {il hs nx cz sm sh le lo cn ml : Int} {m1 m2 m3 : MS} {rf : Nat → Option Nat} {sl : Nat → MS} {t1 t2 : TS} {pg : PS} {sv : Nat} {tl : PW} {n ck st wh rg : Int} {md wt num acc : Nat → Int} {K : Option Value → PW → Prop} {KX : String → PW → Prop} {r k : Int} (hB : MB n ck wh rg md wt num) (hr9 : r32 r) (hk9 : r32 k)
    (qf : ((0 ≤ r ∧ r < 8) ∧ 0 ≤ k ∧ k < n))
    (t9 : (0 ≤ r ∧ r < 8) ∧ 0 ≤ k ∧ k < n → K (some (.long (lI (ptF wh md wt (num r.toNat) k.toNat)))) (rW f il ((mkM n ck st wh rg md wt num acc)) m2 m3 hs nx cz rf sl t1 t2 sm sh pg le lo sv cn ml b9 tl)) : WQ M_R_part (d + 7) mc ms [.ref 0, .int (iI r), .int (iI k)] (rW f il ((mkM n ck st wh rg md wt num acc)) m2 m3 hs nx cz rf sl t1 t2 sm sh pg le lo sv cn ml b9 tl) K KX := by
  have hb := hB.1
  refine methC (pf_R rfl) (tz_R rfl) rfl ?_
  refine run k_R_part [] 900 ?_
  (repeat ((conv => whnf); simp (disch := omega) only [Int.cast_ofNat_Int, Int.reduceToNat, iI_tt, Int.toNat_natCast, iI_add, iI_sub, iI_mul, iI_neg, lI_add, lI_sub, lI_mul, lI_neg, i2l_, l2i_, iI_lt, iI_le, iI_eq, lI_lt, lI_le, lI_eq, iI_lt0, iI_le0, iI_0lt, iI_0le, iI_eq0, iI_eq1, lI_lt0, lI_le0, lI_0lt, lI_0le, lI_eq0, ix_cl, ix_iff, upd_iI, updL_lI, lI_divF, lI_remF, iI_divF, iI_remF, em_eq, Int.not_lt, Int.not_le, true_implies, false_implies, and_true, true_and, not_true_eq_false, not_false_eq_true, true_or, or_true, or_false, false_or])); (conv => whnf)
  by_cases e1 : 0 ≤ r ∧ r < 8
  · refine Or.inl ?_
    refine c_R_needRegG e1 ?_
    (repeat ((conv => whnf); simp (disch := omega) only [Int.cast_ofNat_Int, Int.reduceToNat, iI_tt, Int.toNat_natCast, iI_add, iI_sub, iI_mul, iI_neg, lI_add, lI_sub, lI_mul, lI_neg, i2l_, l2i_, iI_lt, iI_le, iI_eq, lI_lt, lI_le, lI_eq, iI_lt0, iI_le0, iI_0lt, iI_0le, iI_eq0, iI_eq1, lI_lt0, lI_le0, lI_0lt, lI_0le, lI_eq0, ix_cl, ix_iff, upd_iI, updL_lI, lI_divF, lI_remF, iI_divF, iI_remF, em_eq, Int.not_lt, Int.not_le, true_implies, false_implies, and_true, true_and, not_true_eq_false, not_false_eq_true, true_or, or_true, or_false, false_or])); (conv => whnf)
    by_cases e2 : 0 ≤ k ∧ k < n
    · have t9 := t9 ⟨e1, e2⟩
      refine Or.inl ?_
      refine c_R_needModG (m1 := m1) hb.2.1 e2 ?_
      (repeat ((conv => whnf); simp (disch := omega) only [Int.cast_ofNat_Int, Int.reduceToNat, iI_tt, Int.toNat_natCast, iI_add, iI_sub, iI_mul, iI_neg, lI_add, lI_sub, lI_mul, lI_neg, i2l_, l2i_, iI_lt, iI_le, iI_eq, lI_lt, lI_le, lI_eq, iI_lt0, iI_le0, iI_0lt, iI_0le, iI_eq0, iI_eq1, lI_lt0, lI_le0, lI_0lt, lI_0le, lI_eq0, ix_cl, ix_iff, upd_iI, updL_lI, lI_divF, lI_remF, iI_divF, iI_remF, em_eq, Int.not_lt, Int.not_le, true_implies, false_implies, and_true, true_and, not_true_eq_false, not_false_eq_true, true_or, or_true, or_false, false_or])); (conv => whnf)
      refine WQ_fr [2, 3, 4, 5, 6, 7] (mlW n ck st wh rg md wt num acc) [.ref 0, .int (iI r), .int (iI k)] rfl rfl rfl rfl ?_
      refine c_Ml_partAt hB e1.1 e1.2 e2.1 e2.2 ?_
      (repeat ((conv => whnf); simp (disch := omega) only [Int.cast_ofNat_Int, Int.reduceToNat, iI_tt, Int.toNat_natCast, iI_add, iI_sub, iI_mul, iI_neg, lI_add, lI_sub, lI_mul, lI_neg, i2l_, l2i_, iI_lt, iI_le, iI_eq, lI_lt, lI_le, lI_eq, iI_lt0, iI_le0, iI_0lt, iI_0le, iI_eq0, iI_eq1, lI_lt0, lI_le0, lI_0lt, lI_0le, lI_eq0, ix_cl, ix_iff, upd_iI, updL_lI, lI_divF, lI_remF, iI_divF, iI_remF, em_eq, Int.not_lt, Int.not_le, true_implies, false_implies, and_true, true_and, not_true_eq_false, not_false_eq_true, true_or, or_true, or_false, false_or])); (conv => whnf)
      exact t9
    · exfalso; omega
  · exfalso; omega
theorem g_R_compare {d mc ms : Nat} {b9 : va_E} {f : Nat → Int32} {il hs nx cz sm sh le lo cn ml : Int} {m1 m2 m3 : MS} {rf : Nat → Option Nat} {sl : Nat → MS} {t1 t2 : TS} {pg : PS} {sv : Nat} {tl : PW} {n ck st wh rg : Int} {md wt num acc : Nat → Int} {K : Option Value → PW → Prop} {KX : String → PW → Prop} {r o : Int} (hB : MB n ck wh rg md wt num) (hr9 : r32 r) (ho9 : r32 o)
    (qf : ((0 ≤ r ∧ r < 8) ∧ 0 ≤ o ∧ o < 8))
    (t9 : (0 ≤ r ∧ r < 8) ∧ 0 ≤ o ∧ o < 8 → K (some (.int (iI (cmpI (num r.toNat) (num o.toNat))))) (rW f il ((mkM n ck st wh rg md wt num acc)) m2 m3 hs nx cz rf sl t1 t2 sm sh pg le lo sv cn ml b9 tl)) : WQ M_R_compare (d + 7) mc ms [.ref 0, .int (iI r), .int (iI o)] (rW f il ((mkM n ck st wh rg md wt num acc)) m2 m3 hs nx cz rf sl t1 t2 sm sh pg le lo sv cn ml b9 tl) K KX := by
  refine methC (pf_R rfl) (tz_R rfl) rfl ?_
  refine run k_R_compare [] 900 ?_
  (repeat ((conv => whnf); simp (disch := omega) only [Int.cast_ofNat_Int, Int.reduceToNat, iI_tt, Int.toNat_natCast, iI_add, iI_sub, iI_mul, iI_neg, lI_add, lI_sub, lI_mul, lI_neg, i2l_, l2i_, iI_lt, iI_le, iI_eq, lI_lt, lI_le, lI_eq, iI_lt0, iI_le0, iI_0lt, iI_0le, iI_eq0, iI_eq1, lI_lt0, lI_le0, lI_0lt, lI_0le, lI_eq0, ix_cl, ix_iff, upd_iI, updL_lI, lI_divF, lI_remF, iI_divF, iI_remF, em_eq, Int.not_lt, Int.not_le, true_implies, false_implies, and_true, true_and, not_true_eq_false, not_false_eq_true, true_or, or_true, or_false, false_or])); (conv => whnf)
  by_cases e1 : 0 ≤ r ∧ r < 8
  · refine Or.inl ?_
    refine c_R_needRegG e1 ?_
    (repeat ((conv => whnf); simp (disch := omega) only [Int.cast_ofNat_Int, Int.reduceToNat, iI_tt, Int.toNat_natCast, iI_add, iI_sub, iI_mul, iI_neg, lI_add, lI_sub, lI_mul, lI_neg, i2l_, l2i_, iI_lt, iI_le, iI_eq, lI_lt, lI_le, lI_eq, iI_lt0, iI_le0, iI_0lt, iI_0le, iI_eq0, iI_eq1, lI_lt0, lI_le0, lI_0lt, lI_0le, lI_eq0, ix_cl, ix_iff, upd_iI, updL_lI, lI_divF, lI_remF, iI_divF, iI_remF, em_eq, Int.not_lt, Int.not_le, true_implies, false_implies, and_true, true_and, not_true_eq_false, not_false_eq_true, true_or, or_true, or_false, false_or])); (conv => whnf)
    by_cases e2 : 0 ≤ o ∧ o < 8
    · have t9 := t9 ⟨e1, e2⟩
      refine Or.inl ?_
      refine c_R_needRegG e2 ?_
      (repeat ((conv => whnf); simp (disch := omega) only [Int.cast_ofNat_Int, Int.reduceToNat, iI_tt, Int.toNat_natCast, iI_add, iI_sub, iI_mul, iI_neg, lI_add, lI_sub, lI_mul, lI_neg, i2l_, l2i_, iI_lt, iI_le, iI_eq, lI_lt, lI_le, lI_eq, iI_lt0, iI_le0, iI_0lt, iI_0le, iI_eq0, iI_eq1, lI_lt0, lI_le0, lI_0lt, lI_0le, lI_eq0, ix_cl, ix_iff, upd_iI, updL_lI, lI_divF, lI_remF, iI_divF, iI_remF, em_eq, Int.not_lt, Int.not_le, true_implies, false_implies, and_true, true_and, not_true_eq_false, not_false_eq_true, true_or, or_true, or_false, false_or])); (conv => whnf)
      refine WQ_fr [2, 3, 4, 5, 6, 7] (mlW n ck st wh rg md wt num acc) [.ref 0, .int (iI r), .int (iI o)] rfl rfl rfl rfl ?_
      refine c_Ml_orderOf hB e1.1 e1.2 e2.1 e2.2 ?_
      (repeat ((conv => whnf); simp (disch := omega) only [Int.cast_ofNat_Int, Int.reduceToNat, iI_tt, Int.toNat_natCast, iI_add, iI_sub, iI_mul, iI_neg, lI_add, lI_sub, lI_mul, lI_neg, i2l_, l2i_, iI_lt, iI_le, iI_eq, lI_lt, lI_le, lI_eq, iI_lt0, iI_le0, iI_0lt, iI_0le, iI_eq0, iI_eq1, lI_lt0, lI_le0, lI_0lt, lI_0le, lI_eq0, ix_cl, ix_iff, upd_iI, updL_lI, lI_divF, lI_remF, iI_divF, iI_remF, em_eq, Int.not_lt, Int.not_le, true_implies, false_implies, and_true, true_and, not_true_eq_false, not_false_eq_true, true_or, or_true, or_false, false_or])); (conv => whnf)
      exact t9
    · exfalso; omega
  · exfalso; omega
theorem g_R_isSound {d mc ms : Nat} {b9 : va_E} {f : Nat → Int32} {il hs nx cz sm sh le lo cn ml : Int} {m1 m2 m3 : MS} {rf : Nat → Option Nat} {sl : Nat → MS} {t1 t2 : TS} {pg : PS} {sv : Nat} {tl : PW} {n ck st wh rg : Int} {md wt num acc : Nat → Int} {K : Option Value → PW → Prop} {KX : String → PW → Prop} {r : Int} (hB : MB n ck wh rg md wt num) (hr9 : r32 r)
    (qf : (0 ≤ r ∧ r < 8))
    (t9 : 0 ≤ r ∧ r < 8 → K (some (.int (iI (if fitB rg (num r.toNat) = true then 1 else 0)))) (rW f il ((mkM n ck st wh rg md wt num acc)) m2 m3 hs nx cz rf sl t1 t2 sm sh pg le lo sv cn ml b9 tl)) : WQ M_R_isSound (d + 7) mc ms [.ref 0, .int (iI r)] (rW f il ((mkM n ck st wh rg md wt num acc)) m2 m3 hs nx cz rf sl t1 t2 sm sh pg le lo sv cn ml b9 tl) K KX := by
  refine methC (pf_R rfl) (tz_R rfl) rfl ?_
  refine run k_R_isSound [] 900 ?_
  (repeat ((conv => whnf); simp (disch := omega) only [Int.cast_ofNat_Int, Int.reduceToNat, iI_tt, Int.toNat_natCast, iI_add, iI_sub, iI_mul, iI_neg, lI_add, lI_sub, lI_mul, lI_neg, i2l_, l2i_, iI_lt, iI_le, iI_eq, lI_lt, lI_le, lI_eq, iI_lt0, iI_le0, iI_0lt, iI_0le, iI_eq0, iI_eq1, lI_lt0, lI_le0, lI_0lt, lI_0le, lI_eq0, ix_cl, ix_iff, upd_iI, updL_lI, lI_divF, lI_remF, iI_divF, iI_remF, em_eq, Int.not_lt, Int.not_le, true_implies, false_implies, and_true, true_and, not_true_eq_false, not_false_eq_true, true_or, or_true, or_false, false_or])); (conv => whnf)
  by_cases e1 : 0 ≤ r ∧ r < 8
  · have t9 := t9 e1
    refine Or.inl ?_
    refine c_R_needRegG e1 ?_
    (repeat ((conv => whnf); simp (disch := omega) only [Int.cast_ofNat_Int, Int.reduceToNat, iI_tt, Int.toNat_natCast, iI_add, iI_sub, iI_mul, iI_neg, lI_add, lI_sub, lI_mul, lI_neg, i2l_, l2i_, iI_lt, iI_le, iI_eq, lI_lt, lI_le, lI_eq, iI_lt0, iI_le0, iI_0lt, iI_0le, iI_eq0, iI_eq1, lI_lt0, lI_le0, lI_0lt, lI_0le, lI_eq0, ix_cl, ix_iff, upd_iI, updL_lI, lI_divF, lI_remF, iI_divF, iI_remF, em_eq, Int.not_lt, Int.not_le, true_implies, false_implies, and_true, true_and, not_true_eq_false, not_false_eq_true, true_or, or_true, or_false, false_or])); (conv => whnf)
    refine WQ_fr [2, 3, 4, 5, 6, 7] (mlW n ck st wh rg md wt num acc) [.ref 0, .int (iI r)] rfl rfl rfl rfl ?_
    refine c_Ml_soundAt hB e1.1 e1.2 (fun hf => ?_) (fun hf => ?_)
    · rw [if_pos (fitB_t.mpr hf)] at t9
      (repeat ((conv => whnf); simp (disch := omega) only [Int.cast_ofNat_Int, Int.reduceToNat, iI_tt, Int.toNat_natCast, iI_add, iI_sub, iI_mul, iI_neg, lI_add, lI_sub, lI_mul, lI_neg, i2l_, l2i_, iI_lt, iI_le, iI_eq, lI_lt, lI_le, lI_eq, iI_lt0, iI_le0, iI_0lt, iI_0le, iI_eq0, iI_eq1, lI_lt0, lI_le0, lI_0lt, lI_0le, lI_eq0, ix_cl, ix_iff, upd_iI, updL_lI, lI_divF, lI_remF, iI_divF, iI_remF, em_eq, Int.not_lt, Int.not_le, true_implies, false_implies, and_true, true_and, not_true_eq_false, not_false_eq_true, true_or, or_true, or_false, false_or])); (conv => whnf)
      repeat' ((first | (refine ⟨fun _ => ?_, fun hb => absurd hb (by omega)⟩) | (refine ⟨fun hb => absurd hb (by omega), fun _ => ?_⟩) | (refine ⟨by omega, ?_⟩) | (refine ⟨⟨by omega, (by (conv => whnf); exact trivial)⟩, ?_⟩) | (refine ⟨(Nat.le_of_ble_eq_true rfl), bWp_ok _ (by (conv => whnf); exact trivial), ?_⟩) | (refine ⟨fun _ => ?_, fun _ => ?_⟩) | fail) <;> ((repeat ((conv => whnf); simp (disch := omega) only [Int.cast_ofNat_Int, Int.reduceToNat, iI_tt, Int.toNat_natCast, iI_add, iI_sub, iI_mul, iI_neg, lI_add, lI_sub, lI_mul, lI_neg, i2l_, l2i_, iI_lt, iI_le, iI_eq, lI_lt, lI_le, lI_eq, iI_lt0, iI_le0, iI_0lt, iI_0le, iI_eq0, iI_eq1, lI_lt0, lI_le0, lI_0lt, lI_0le, lI_eq0, ix_cl, ix_iff, upd_iI, updL_lI, lI_divF, lI_remF, iI_divF, iI_remF, em_eq, Int.not_lt, Int.not_le, true_implies, false_implies, and_true, true_and, not_true_eq_false, not_false_eq_true, true_or, or_true, or_false, false_or])); (conv => whnf)))
      exact t9
    · rw [if_neg (fun h => hf (fitB_t.mp h))] at t9
      (repeat ((conv => whnf); simp (disch := omega) only [Int.cast_ofNat_Int, Int.reduceToNat, iI_tt, Int.toNat_natCast, iI_add, iI_sub, iI_mul, iI_neg, lI_add, lI_sub, lI_mul, lI_neg, i2l_, l2i_, iI_lt, iI_le, iI_eq, lI_lt, lI_le, lI_eq, iI_lt0, iI_le0, iI_0lt, iI_0le, iI_eq0, iI_eq1, lI_lt0, lI_le0, lI_0lt, lI_0le, lI_eq0, ix_cl, ix_iff, upd_iI, updL_lI, lI_divF, lI_remF, iI_divF, iI_remF, em_eq, Int.not_lt, Int.not_le, true_implies, false_implies, and_true, true_and, not_true_eq_false, not_false_eq_true, true_or, or_true, or_false, false_or])); (conv => whnf)
      repeat' ((first | (refine ⟨fun _ => ?_, fun hb => absurd hb (by omega)⟩) | (refine ⟨fun hb => absurd hb (by omega), fun _ => ?_⟩) | (refine ⟨by omega, ?_⟩) | (refine ⟨⟨by omega, (by (conv => whnf); exact trivial)⟩, ?_⟩) | (refine ⟨(Nat.le_of_ble_eq_true rfl), bWp_ok _ (by (conv => whnf); exact trivial), ?_⟩) | (refine ⟨fun _ => ?_, fun _ => ?_⟩) | fail) <;> ((repeat ((conv => whnf); simp (disch := omega) only [Int.cast_ofNat_Int, Int.reduceToNat, iI_tt, Int.toNat_natCast, iI_add, iI_sub, iI_mul, iI_neg, lI_add, lI_sub, lI_mul, lI_neg, i2l_, l2i_, iI_lt, iI_le, iI_eq, lI_lt, lI_le, lI_eq, iI_lt0, iI_le0, iI_0lt, iI_0le, iI_eq0, iI_eq1, lI_lt0, lI_le0, lI_0lt, lI_0le, lI_eq0, ix_cl, ix_iff, upd_iI, updL_lI, lI_divF, lI_remF, iI_divF, iI_remF, em_eq, Int.not_lt, Int.not_le, true_implies, false_implies, and_true, true_and, not_true_eq_false, not_false_eq_true, true_or, or_true, or_false, false_or])); (conv => whnf)))
      exact t9
  · exfalso; omega
theorem g_R_modulus {d mc ms : Nat} {b9 : va_E} {f : Nat → Int32} {il hs nx cz sm sh le lo cn ml : Int} {m1 m2 m3 : MS} {rf : Nat → Option Nat} {sl : Nat → MS} {t1 t2 : TS} {pg : PS} {sv : Nat} {tl : PW} {n ck st wh rg : Int} {md wt num acc : Nat → Int} {K : Option Value → PW → Prop} {KX : String → PW → Prop} {k : Int} (hB : MB n ck wh rg md wt num) (hk9 : r32 k)
    (qf : (0 ≤ k ∧ k < n))
    (t9 : 0 ≤ k ∧ k < n → K (some (.int (iI (md k.toNat)))) (rW f il ((mkM n ck st wh rg md wt num acc)) m2 m3 hs nx cz rf sl t1 t2 sm sh pg le lo sv cn ml b9 tl)) : WQ M_R_modulus (d + 7) mc ms [.ref 0, .int (iI k)] (rW f il ((mkM n ck st wh rg md wt num acc)) m2 m3 hs nx cz rf sl t1 t2 sm sh pg le lo sv cn ml b9 tl) K KX := by
  have hb := hB.1
  refine methC (pf_R rfl) (tz_R rfl) rfl ?_
  refine run k_R_modulus [] 900 ?_
  (repeat ((conv => whnf); simp (disch := omega) only [Int.cast_ofNat_Int, Int.reduceToNat, iI_tt, Int.toNat_natCast, iI_add, iI_sub, iI_mul, iI_neg, lI_add, lI_sub, lI_mul, lI_neg, i2l_, l2i_, iI_lt, iI_le, iI_eq, lI_lt, lI_le, lI_eq, iI_lt0, iI_le0, iI_0lt, iI_0le, iI_eq0, iI_eq1, lI_lt0, lI_le0, lI_0lt, lI_0le, lI_eq0, ix_cl, ix_iff, upd_iI, updL_lI, lI_divF, lI_remF, iI_divF, iI_remF, em_eq, Int.not_lt, Int.not_le, true_implies, false_implies, and_true, true_and, not_true_eq_false, not_false_eq_true, true_or, or_true, or_false, false_or])); (conv => whnf)
  by_cases e2 : 0 ≤ k ∧ k < n
  · have t9 := t9 e2
    refine Or.inl ?_
    refine c_R_needModG (m1 := m1) hb.2.1 e2 ?_
    (repeat ((conv => whnf); simp (disch := omega) only [Int.cast_ofNat_Int, Int.reduceToNat, iI_tt, Int.toNat_natCast, iI_add, iI_sub, iI_mul, iI_neg, lI_add, lI_sub, lI_mul, lI_neg, i2l_, l2i_, iI_lt, iI_le, iI_eq, lI_lt, lI_le, lI_eq, iI_lt0, iI_le0, iI_0lt, iI_0le, iI_eq0, iI_eq1, lI_lt0, lI_le0, lI_0lt, lI_0le, lI_eq0, ix_cl, ix_iff, upd_iI, updL_lI, lI_divF, lI_remF, iI_divF, iI_remF, em_eq, Int.not_lt, Int.not_le, true_implies, false_implies, and_true, true_and, not_true_eq_false, not_false_eq_true, true_or, or_true, or_false, false_or])); (conv => whnf)
    refine WQ_fr [3, 4, 5] (moW n ck wh rg md wt) [.ref 0, .int (iI k)] rfl rfl rfl rfl ?_
    refine c_Mo_at e2.1 e2.2 hb.2.1 ?_
    (repeat ((conv => whnf); simp (disch := omega) only [Int.cast_ofNat_Int, Int.reduceToNat, iI_tt, Int.toNat_natCast, iI_add, iI_sub, iI_mul, iI_neg, lI_add, lI_sub, lI_mul, lI_neg, i2l_, l2i_, iI_lt, iI_le, iI_eq, lI_lt, lI_le, lI_eq, iI_lt0, iI_le0, iI_0lt, iI_0le, iI_eq0, iI_eq1, lI_lt0, lI_le0, lI_0lt, lI_0le, lI_eq0, ix_cl, ix_iff, upd_iI, updL_lI, lI_divF, lI_remF, iI_divF, iI_remF, em_eq, Int.not_lt, Int.not_le, true_implies, false_implies, and_true, true_and, not_true_eq_false, not_false_eq_true, true_or, or_true, or_false, false_or])); (conv => whnf)
    exact t9
  · exfalso; omega
theorem g_R_account {d mc ms : Nat} {b9 : va_E} {f : Nat → Int32} {il hs nx cz sm sh le lo cn ml : Int} {m1 m2 m3 : MS} {rf : Nat → Option Nat} {sl : Nat → MS} {t1 t2 : TS} {pg : PS} {sv : Nat} {tl : PW} {n ck st wh rg : Int} {md wt num acc : Nat → Int} {K : Option Value → PW → Prop} {KX : String → PW → Prop} {x : Int} (hx9 : r32 x)
    (qf : (0 ≤ x ∧ x < 8))
    (t9 : 0 ≤ x ∧ x < 8 → K (some (.int (iI (acc x.toNat)))) (rW f il ((mkM n ck st wh rg md wt num acc)) m2 m3 hs nx cz rf sl t1 t2 sm sh pg le lo sv cn ml b9 tl)) : WQ M_R_account (d + 7) mc ms [.ref 0, .int (iI x)] (rW f il ((mkM n ck st wh rg md wt num acc)) m2 m3 hs nx cz rf sl t1 t2 sm sh pg le lo sv cn ml b9 tl) K KX := by
  refine methC (pf_R rfl) (tz_R rfl) rfl ?_
  refine run k_R_account [] 900 ?_
  (repeat ((conv => whnf); simp (disch := omega) only [Int.cast_ofNat_Int, Int.reduceToNat, iI_tt, Int.toNat_natCast, iI_add, iI_sub, iI_mul, iI_neg, lI_add, lI_sub, lI_mul, lI_neg, i2l_, l2i_, iI_lt, iI_le, iI_eq, lI_lt, lI_le, lI_eq, iI_lt0, iI_le0, iI_0lt, iI_0le, iI_eq0, iI_eq1, lI_lt0, lI_le0, lI_0lt, lI_0le, lI_eq0, ix_cl, ix_iff, upd_iI, updL_lI, lI_divF, lI_remF, iI_divF, iI_remF, em_eq, Int.not_lt, Int.not_le, true_implies, false_implies, and_true, true_and, not_true_eq_false, not_false_eq_true, true_or, or_true, or_false, false_or])); (conv => whnf)
  by_cases e1 : 0 ≤ x ∧ x < 8
  · have t9 := t9 e1
    (repeat ((conv => whnf); simp (disch := omega) only [Int.cast_ofNat_Int, Int.reduceToNat, iI_tt, Int.toNat_natCast, iI_add, iI_sub, iI_mul, iI_neg, lI_add, lI_sub, lI_mul, lI_neg, i2l_, l2i_, iI_lt, iI_le, iI_eq, lI_lt, lI_le, lI_eq, iI_lt0, iI_le0, iI_0lt, iI_0le, iI_eq0, iI_eq1, lI_lt0, lI_le0, lI_0lt, lI_0le, lI_eq0, ix_cl, ix_iff, upd_iI, updL_lI, lI_divF, lI_remF, iI_divF, iI_remF, em_eq, Int.not_lt, Int.not_le, true_implies, false_implies, and_true, true_and, not_true_eq_false, not_false_eq_true, true_or, or_true, or_false, false_or])); (conv => whnf)
    repeat' ((first | (refine ⟨fun _ => ?_, fun hb => absurd hb (by omega)⟩) | (refine ⟨fun hb => absurd hb (by omega), fun _ => ?_⟩) | (refine ⟨by omega, ?_⟩) | (refine ⟨⟨by omega, (by (conv => whnf); exact trivial)⟩, ?_⟩) | (refine ⟨(Nat.le_of_ble_eq_true rfl), bWp_ok _ (by (conv => whnf); exact trivial), ?_⟩) | (refine ⟨fun _ => ?_, fun _ => ?_⟩) | fail) <;> ((repeat ((conv => whnf); simp (disch := omega) only [Int.cast_ofNat_Int, Int.reduceToNat, iI_tt, Int.toNat_natCast, iI_add, iI_sub, iI_mul, iI_neg, lI_add, lI_sub, lI_mul, lI_neg, i2l_, l2i_, iI_lt, iI_le, iI_eq, lI_lt, lI_le, lI_eq, iI_lt0, iI_le0, iI_0lt, iI_0le, iI_eq0, iI_eq1, lI_lt0, lI_le0, lI_0lt, lI_0le, lI_eq0, ix_cl, ix_iff, upd_iI, updL_lI, lI_divF, lI_remF, iI_divF, iI_remF, em_eq, Int.not_lt, Int.not_le, true_implies, false_implies, and_true, true_and, not_true_eq_false, not_false_eq_true, true_or, or_true, or_false, false_or])); (conv => whnf)))
    all_goals try (exfalso; omega)
    refine WQ_fr [2, 3, 4, 5, 6, 7] (mlW n ck st wh rg md wt num acc) [.ref 0, .int (iI x)] rfl rfl rfl rfl ?_
    refine c_Ml_accountAt e1.1 e1.2 ?_
    (repeat ((conv => whnf); simp (disch := omega) only [Int.cast_ofNat_Int, Int.reduceToNat, iI_tt, Int.toNat_natCast, iI_add, iI_sub, iI_mul, iI_neg, lI_add, lI_sub, lI_mul, lI_neg, i2l_, l2i_, iI_lt, iI_le, iI_eq, lI_lt, lI_le, lI_eq, iI_lt0, iI_le0, iI_0lt, iI_0le, iI_eq0, iI_eq1, lI_lt0, lI_le0, lI_0lt, lI_0le, lI_eq0, ix_cl, ix_iff, upd_iI, updL_lI, lI_divF, lI_remF, iI_divF, iI_remF, em_eq, Int.not_lt, Int.not_le, true_implies, false_implies, and_true, true_and, not_true_eq_false, not_false_eq_true, true_or, or_true, or_false, false_or])); (conv => whnf)
    exact t9
  · exfalso; omega
