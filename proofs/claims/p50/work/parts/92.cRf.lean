/-! THE CLASS: gap -/
theorem vdS_eq {md : Nat → Int} {v : Int} : ∀ (i : Nat), (∀ k, k < i → 1 ≤ md k) → vdS md v i = v % PN md i
  | 0, _ => (Int.emod_one v).symm
  | i + 1, h => by
    have ih := vdS_eq (v := v) i (fun k hk => h k (by omega))
    have hp : 1 ≤ PN md i := PN_pos _ (fun k hk => by have := h k (by omega); omega)
    have hm := h i (by omega)
    have e1 : vdS md v (i + 1) = vdS md v i + dgL md v i % md i * PN md i := rfl
    rw [e1, ih, dgL_eq i (fun k hk => h k (by omega))]
    show _ = v % (PN md i * md i)
    have a1 := Int.mul_ediv_add_emod v (PN md i)
    have a2 := Int.mul_ediv_add_emod (v / PN md i) (md i)
    have a3 := Int.mul_ediv_add_emod v (PN md i * md i)
    have a4 : v / (PN md i * md i) = v / PN md i / md i := (Int.ediv_ediv_of_nonneg (by omega)).symm
    have a5 : PN md i * (v / PN md i) = PN md i * (md i * (v / PN md i / md i)) + PN md i * (v / PN md i % md i) := by
      rw [← Int.mul_add, a2]
    rw [a4, Int.mul_assoc] at a3
    rw [Int.mul_comm (v / PN md i % md i)]
    omega
theorem lp_gapR {d mc ms : Nat} {b9 : va_E} {f : Nat → Int32} {il hs nx cz sm sh le lo cn ml : Int} {m1 m2 m3 : MS} {rf : Nat → Option Nat} {sl : Nat → MS} {t1 t2 : TS} {pg : PS} {sv : Nat} {tl : PW} {n ck st wh rg : Int} {md wt num acc : Nat → Int} {K : Option Value → PW → Prop} {KX : String → PW → Prop} {s : Nat → Int} (hq : QOk s n ck st wh rg md wt num acc) (h : K (some (.long (lI 0))) (rW f il ((mkM n ck st wh rg md wt num acc)) m2 m3 hs nx cz rf sl t1 t2 sm sh pg le lo sv cn ml b9 tl)) : ∀ (q : Nat) (i : Int), i + q = 8 → 0 ≤ i →
    GO M_R_gap (d + 6) mc ms 4 [some (.ref 0), some (.long (lI 0)), none, some (.int (iI i))] [] (rW f il ((mkM n ck st wh rg md wt num acc)) m2 m3 hs nx cz rf sl t1 t2 sm sh pg le lo sv cn ml b9 tl) K KX := by
  have hw := hq.mb.1
  intro q
  induction q with
  | zero =>
    intro i hi i0
    refine run k_R_gap [] 900 ?_
    (repeat ((conv => whnf); simp (disch := omega) only [Int.cast_ofNat_Int, Int.reduceToNat, iI_tt, Int.toNat_natCast, iI_add, iI_sub, iI_mul, iI_neg, lI_add, lI_sub, lI_mul, lI_neg, i2l_, l2i_, iI_lt, iI_le, iI_eq, lI_lt, lI_le, lI_eq, iI_lt0, iI_le0, iI_0lt, iI_0le, iI_eq0, iI_eq1, lI_lt0, lI_le0, lI_0lt, lI_0le, lI_eq0, ix_cl, ix_iff, upd_iI, updL_lI, lI_divF, lI_remF, iI_divF, iI_remF, em_eq, Int.not_lt, Int.not_le, true_implies, false_implies, and_true, true_and, not_true_eq_false, not_false_eq_true, true_or, or_true, or_false, false_or])); (conv => whnf)
    (repeat ((conv => whnf); simp (disch := omega) only [Int.cast_ofNat_Int, Int.reduceToNat, iI_tt, Int.toNat_natCast, iI_add, iI_sub, iI_mul, iI_neg, lI_add, lI_sub, lI_mul, lI_neg, i2l_, l2i_, iI_lt, iI_le, iI_eq, lI_lt, lI_le, lI_eq, iI_lt0, iI_le0, iI_0lt, iI_0le, iI_eq0, iI_eq1, lI_lt0, lI_le0, lI_0lt, lI_0le, lI_eq0, ix_cl, ix_iff, upd_iI, updL_lI, lI_divF, lI_remF, iI_divF, iI_remF, em_eq, Int.not_lt, Int.not_le, true_implies, false_implies, and_true, true_and, not_true_eq_false, not_false_eq_true, true_or, or_true, or_false, false_or])); (conv => whnf)
    repeat' ((first | (refine ⟨fun _ => ?_, fun hb => absurd hb (by omega)⟩) | (refine ⟨fun hb => absurd hb (by omega), fun _ => ?_⟩) | (refine ⟨by omega, ?_⟩) | (refine ⟨⟨by omega, (by (conv => whnf); exact trivial)⟩, ?_⟩) | (refine ⟨(Nat.le_of_ble_eq_true rfl), bWp_ok _ (by (conv => whnf); exact trivial), ?_⟩) | (refine ⟨fun _ => ?_, fun _ => ?_⟩) | fail) <;> ((repeat ((conv => whnf); simp (disch := omega) only [Int.cast_ofNat_Int, Int.reduceToNat, iI_tt, Int.toNat_natCast, iI_add, iI_sub, iI_mul, iI_neg, lI_add, lI_sub, lI_mul, lI_neg, i2l_, l2i_, iI_lt, iI_le, iI_eq, lI_lt, lI_le, lI_eq, iI_lt0, iI_le0, iI_0lt, iI_0le, iI_eq0, iI_eq1, lI_lt0, lI_le0, lI_0lt, lI_0le, lI_eq0, ix_cl, ix_iff, upd_iI, updL_lI, lI_divF, lI_remF, iI_divF, iI_remF, em_eq, Int.not_lt, Int.not_le, true_implies, false_implies, and_true, true_and, not_true_eq_false, not_false_eq_true, true_or, or_true, or_false, false_or])); (conv => whnf)))
    all_goals first | exact h | (exfalso; omega)
  | succ q ih =>
    intro i hi i0
    have e0 := Int.emod_nonneg (num i.toNat) (b := wh) (by omega)
    have e1 := Int.emod_lt_of_pos (num i.toNat) (show 0 < wh by omega)
    have e2 := sm_all hq (x := num i.toNat)
    have e3 := sm_b hq (x := num i.toNat) n.toNat
    have e4 : vdS md (num i.toNat % wh) n.toNat = num i.toNat % wh := by
      rw [vdS_eq n.toNat (fun k hk => by have := hq.rm.2 k (by omega); omega), hq.wh]
      exact Int.emod_emod_of_dvd _ (Int.dvd_refl wh)
    refine run k_R_gap [4] 900 ?_
    (repeat ((conv => whnf); simp (disch := omega) only [Int.cast_ofNat_Int, Int.reduceToNat, iI_tt, Int.toNat_natCast, iI_add, iI_sub, iI_mul, iI_neg, lI_add, lI_sub, lI_mul, lI_neg, i2l_, l2i_, iI_lt, iI_le, iI_eq, lI_lt, lI_le, lI_eq, iI_lt0, iI_le0, iI_0lt, iI_0le, iI_eq0, iI_eq1, lI_lt0, lI_le0, lI_0lt, lI_0le, lI_eq0, ix_cl, ix_iff, upd_iI, updL_lI, lI_divF, lI_remF, iI_divF, iI_remF, em_eq, Int.not_lt, Int.not_le, true_implies, false_implies, and_true, true_and, not_true_eq_false, not_false_eq_true, true_or, or_true, or_false, false_or])); (conv => whnf)
    (repeat ((conv => whnf); simp (disch := omega) only [Int.cast_ofNat_Int, Int.reduceToNat, iI_tt, Int.toNat_natCast, iI_add, iI_sub, iI_mul, iI_neg, lI_add, lI_sub, lI_mul, lI_neg, i2l_, l2i_, iI_lt, iI_le, iI_eq, lI_lt, lI_le, lI_eq, iI_lt0, iI_le0, iI_0lt, iI_0le, iI_eq0, iI_eq1, lI_lt0, lI_le0, lI_0lt, lI_0le, lI_eq0, ix_cl, ix_iff, upd_iI, updL_lI, lI_divF, lI_remF, iI_divF, iI_remF, em_eq, Int.not_lt, Int.not_le, true_implies, false_implies, and_true, true_and, not_true_eq_false, not_false_eq_true, true_or, or_true, or_false, false_or])); (conv => whnf)
    repeat' ((first | (refine ⟨fun _ => ?_, fun hb => absurd hb (by omega)⟩) | (refine ⟨fun hb => absurd hb (by omega), fun _ => ?_⟩) | (refine ⟨by omega, ?_⟩) | (refine ⟨⟨by omega, (by (conv => whnf); exact trivial)⟩, ?_⟩) | (refine ⟨(Nat.le_of_ble_eq_true rfl), bWp_ok _ (by (conv => whnf); exact trivial), ?_⟩) | (refine ⟨fun _ => ?_, fun _ => ?_⟩) | fail) <;> ((repeat ((conv => whnf); simp (disch := omega) only [Int.cast_ofNat_Int, Int.reduceToNat, iI_tt, Int.toNat_natCast, iI_add, iI_sub, iI_mul, iI_neg, lI_add, lI_sub, lI_mul, lI_neg, i2l_, l2i_, iI_lt, iI_le, iI_eq, lI_lt, lI_le, lI_eq, iI_lt0, iI_le0, iI_0lt, iI_0le, iI_eq0, iI_eq1, lI_lt0, lI_le0, lI_0lt, lI_0le, lI_eq0, ix_cl, ix_iff, upd_iI, updL_lI, lI_divF, lI_remF, iI_divF, iI_remF, em_eq, Int.not_lt, Int.not_le, true_implies, false_implies, and_true, true_and, not_true_eq_false, not_false_eq_true, true_or, or_true, or_false, false_or])); (conv => whnf)))
    all_goals try (exfalso; omega)
    refine WQ_fr [2, 3, 4, 5, 6, 7] (mlW n ck st wh rg md wt num acc) [.ref 0, .int (iI i)] rfl rfl rfl rfl ?_
    refine c_Ml_sumOfParts hq.mb i0 (by omega) ?_
    (repeat ((conv => whnf); simp (disch := omega) only [Int.cast_ofNat_Int, Int.reduceToNat, iI_tt, Int.toNat_natCast, iI_add, iI_sub, iI_mul, iI_neg, lI_add, lI_sub, lI_mul, lI_neg, i2l_, l2i_, iI_lt, iI_le, iI_eq, lI_lt, lI_le, lI_eq, iI_lt0, iI_le0, iI_0lt, iI_0le, iI_eq0, iI_eq1, lI_lt0, lI_le0, lI_0lt, lI_0le, lI_eq0, ix_cl, ix_iff, upd_iI, updL_lI, lI_divF, lI_remF, iI_divF, iI_remF, em_eq, Int.not_lt, Int.not_le, true_implies, false_implies, and_true, true_and, not_true_eq_false, not_false_eq_true, true_or, or_true, or_false, false_or])); (conv => whnf)
    refine c_R_floorRest (y := wh) ⟨by omega, by omega⟩ (by omega) ⟨by omega, by omega⟩ ?_
    rw [e2]
    (repeat ((conv => whnf); simp (disch := omega) only [Int.cast_ofNat_Int, Int.reduceToNat, iI_tt, Int.toNat_natCast, iI_add, iI_sub, iI_mul, iI_neg, lI_add, lI_sub, lI_mul, lI_neg, i2l_, l2i_, iI_lt, iI_le, iI_eq, lI_lt, lI_le, lI_eq, iI_lt0, iI_le0, iI_0lt, iI_0le, iI_eq0, iI_eq1, lI_lt0, lI_le0, lI_0lt, lI_0le, lI_eq0, ix_cl, ix_iff, upd_iI, updL_lI, lI_divF, lI_remF, iI_divF, iI_remF, em_eq, Int.not_lt, Int.not_le, true_implies, false_implies, and_true, true_and, not_true_eq_false, not_false_eq_true, true_or, or_true, or_false, false_or])); (conv => whnf)
    refine WQ_fr [2, 3, 4, 5, 6, 7] (mlW n ck st wh rg md wt num acc) [.ref 0, .int (iI i)] rfl rfl rfl rfl ?_
    refine c_Ml_valueByDigits hq.mb (by rw [hq.wh]; omega) i0 (by omega) ?_
    (repeat ((conv => whnf); simp (disch := omega) only [Int.cast_ofNat_Int, Int.reduceToNat, iI_tt, Int.toNat_natCast, iI_add, iI_sub, iI_mul, iI_neg, lI_add, lI_sub, lI_mul, lI_neg, i2l_, l2i_, iI_lt, iI_le, iI_eq, lI_lt, lI_le, lI_eq, iI_lt0, iI_le0, iI_0lt, iI_0le, iI_eq0, iI_eq1, lI_lt0, lI_le0, lI_0lt, lI_0le, lI_eq0, ix_cl, ix_iff, upd_iI, updL_lI, lI_divF, lI_remF, iI_divF, iI_remF, em_eq, Int.not_lt, Int.not_le, true_implies, false_implies, and_true, true_and, not_true_eq_false, not_false_eq_true, true_or, or_true, or_false, false_or])); (conv => whnf)
    rw [e4, Int.sub_self]
    refine c_jMath_abs ⟨by omega, by omega⟩ ?_
    (repeat ((conv => whnf); simp (disch := omega) only [Int.cast_ofNat_Int, Int.reduceToNat, iI_tt, Int.toNat_natCast, iI_add, iI_sub, iI_mul, iI_neg, lI_add, lI_sub, lI_mul, lI_neg, i2l_, l2i_, iI_lt, iI_le, iI_eq, lI_lt, lI_le, lI_eq, iI_lt0, iI_le0, iI_0lt, iI_0le, iI_eq0, iI_eq1, lI_lt0, lI_le0, lI_0lt, lI_0le, lI_eq0, ix_cl, ix_iff, upd_iI, updL_lI, lI_divF, lI_remF, iI_divF, iI_remF, em_eq, Int.not_lt, Int.not_le, true_implies, false_implies, and_true, true_and, not_true_eq_false, not_false_eq_true, true_or, or_true, or_false, false_or])); (conv => whnf)
    exact GO_take 4 (ih (i + 1) (by omega) (by omega))
theorem c_R_gap {d mc ms : Nat} {b9 : va_E} {f : Nat → Int32} {il hs nx cz sm sh le lo cn ml : Int} {m1 m2 m3 : MS} {rf : Nat → Option Nat} {sl : Nat → MS} {t1 t2 : TS} {pg : PS} {sv : Nat} {tl : PW} {n ck st wh rg : Int} {md wt num acc : Nat → Int} {K : Option Value → PW → Prop} {KX : String → PW → Prop} {s : Nat → Int} (hq : QOk s n ck st wh rg md wt num acc) (h : K (some (.long (lI 0))) (rW f il ((mkM n ck st wh rg md wt num acc)) m2 m3 hs nx cz rf sl t1 t2 sm sh pg le lo sv cn ml b9 tl)) : WQ M_R_gap (d + 6) mc ms [.ref 0] (rW f il ((mkM n ck st wh rg md wt num acc)) m2 m3 hs nx cz rf sl t1 t2 sm sh pg le lo sv cn ml b9 tl) K KX := by
  have fin := lp_gapR (d := d) (mc := mc) (ms := ms) (KX := KX) (m1 := m1) hq h 8 0 (by omega) (by omega)
  refine methC (pf_R rfl) (tz_R rfl) rfl ?_
  refine run k_R_gap [4] 900 ?_
  (repeat ((conv => whnf); simp (disch := omega) only [Int.cast_ofNat_Int, Int.reduceToNat, iI_tt, Int.toNat_natCast, iI_add, iI_sub, iI_mul, iI_neg, lI_add, lI_sub, lI_mul, lI_neg, i2l_, l2i_, iI_lt, iI_le, iI_eq, lI_lt, lI_le, lI_eq, iI_lt0, iI_le0, iI_0lt, iI_0le, iI_eq0, iI_eq1, lI_lt0, lI_le0, lI_0lt, lI_0le, lI_eq0, ix_cl, ix_iff, upd_iI, updL_lI, lI_divF, lI_remF, iI_divF, iI_remF, em_eq, Int.not_lt, Int.not_le, true_implies, false_implies, and_true, true_and, not_true_eq_false, not_false_eq_true, true_or, or_true, or_false, false_or])); (conv => whnf)
  exact fin
