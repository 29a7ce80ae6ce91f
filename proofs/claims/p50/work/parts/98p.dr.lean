/-! THE LAW'S DRAWS -/
def clF (L : Nat) (xs : Nat → Int32) (k : Int) : Int32 := if k < L then xs k.toNat else iI (8191 * k + 131071)
theorem iN_of {L : Nat} : Int32.ofNat L = iI (L : Int) := nI_iI L
theorem c_Lw_cell {d mc ms : Nat} {L : Nat} {xs : Nat → Int32} {w : PW} {K : Option Value → PW → Prop} {KX : String → PW → Prop} {k : Int} (hL : L ≤ 1000) (k0 : 0 ≤ k) (k1 : k ≤ 1000) (h : K (some (.int (clF L xs k))) w) : WGn 0 L xs M_Lw_cell d mc ms [.ref 3300, .int (iI k)] w K KX := by
  unfold clF at h
  refine methG (by decide +kernel) (tz_Lw rfl) rfl [some (.ref 3300), some (.int (iI k))] rfl ?_
  refine runP (k_Lw_cell L xs) [] 900 ?_
  by_cases e : k < L
  · rw [if_pos e] at h
    (repeat ((conv => whnf); simp (disch := omega) only [iN_of, Int.cast_ofNat_Int, Int.reduceToNat, iI_tt, Int.toNat_natCast, iI_add, iI_sub, iI_mul, iI_neg, lI_add, lI_sub, lI_mul, lI_neg, i2l_, l2i_, iI_lt, iI_le, iI_eq, lI_lt, lI_le, lI_eq, iI_lt0, iI_le0, iI_0lt, iI_0le, iI_eq0, iI_eq1, lI_lt0, lI_le0, lI_0lt, lI_0le, lI_eq0, ix_cl, ix_iff, upd_iI, updL_lI, lI_divF, lI_remF, iI_divF, iI_remF, em_eq, Int.not_lt, Int.not_le, true_implies, false_implies, and_true, true_and, not_true_eq_false, not_false_eq_true, true_or, or_true, or_false, false_or])); (conv => whnf)
    refine ⟨fun hb => absurd hb (by omega), fun _ => ?_⟩
    (repeat ((conv => whnf); simp (disch := omega) only [Int.cast_ofNat_Int, Int.reduceToNat, iI_tt, Int.toNat_natCast, iI_add, iI_sub, iI_mul, iI_neg, lI_add, lI_sub, lI_mul, lI_neg, i2l_, l2i_, iI_lt, iI_le, iI_eq, lI_lt, lI_le, lI_eq, iI_lt0, iI_le0, iI_0lt, iI_0le, iI_eq0, iI_eq1, lI_lt0, lI_le0, lI_0lt, lI_0le, lI_eq0, ix_cl, ix_iff, upd_iI, updL_lI, lI_divF, lI_remF, iI_divF, iI_remF, em_eq, Int.not_lt, Int.not_le, true_implies, false_implies, and_true, true_and, not_true_eq_false, not_false_eq_true, true_or, or_true, or_false, false_or])); (conv => whnf)
    refine ⟨⟨by omega, by omega⟩, ?_⟩
    (repeat ((conv => whnf); simp (disch := omega) only [Int.cast_ofNat_Int, Int.reduceToNat, iI_tt, Int.toNat_natCast, iI_add, iI_sub, iI_mul, iI_neg, lI_add, lI_sub, lI_mul, lI_neg, i2l_, l2i_, iI_lt, iI_le, iI_eq, lI_lt, lI_le, lI_eq, iI_lt0, iI_le0, iI_0lt, iI_0le, iI_eq0, iI_eq1, lI_lt0, lI_le0, lI_0lt, lI_0le, lI_eq0, ix_cl, ix_iff, upd_iI, updL_lI, lI_divF, lI_remF, iI_divF, iI_remF, em_eq, Int.not_lt, Int.not_le, true_implies, false_implies, and_true, true_and, not_true_eq_false, not_false_eq_true, true_or, or_true, or_false, false_or])); (conv => whnf)
    exact h
  · rw [if_neg e] at h
    (repeat ((conv => whnf); simp (disch := omega) only [iN_of, Int.cast_ofNat_Int, Int.reduceToNat, iI_tt, Int.toNat_natCast, iI_add, iI_sub, iI_mul, iI_neg, lI_add, lI_sub, lI_mul, lI_neg, i2l_, l2i_, iI_lt, iI_le, iI_eq, lI_lt, lI_le, lI_eq, iI_lt0, iI_le0, iI_0lt, iI_0le, iI_eq0, iI_eq1, lI_lt0, lI_le0, lI_0lt, lI_0le, lI_eq0, ix_cl, ix_iff, upd_iI, updL_lI, lI_divF, lI_remF, iI_divF, iI_remF, em_eq, Int.not_lt, Int.not_le, true_implies, false_implies, and_true, true_and, not_true_eq_false, not_false_eq_true, true_or, or_true, or_false, false_or])); (conv => whnf)
    refine ⟨fun _ => ?_, fun hb => absurd hb (by omega)⟩
    (repeat ((conv => whnf); simp (disch := omega) only [Int.cast_ofNat_Int, Int.reduceToNat, iI_tt, Int.toNat_natCast, iI_add, iI_sub, iI_mul, iI_neg, lI_add, lI_sub, lI_mul, lI_neg, i2l_, l2i_, iI_lt, iI_le, iI_eq, lI_lt, lI_le, lI_eq, iI_lt0, iI_le0, iI_0lt, iI_0le, iI_eq0, iI_eq1, lI_lt0, lI_le0, lI_0lt, lI_0le, lI_eq0, ix_cl, ix_iff, upd_iI, updL_lI, lI_divF, lI_remF, iI_divF, iI_remF, em_eq, Int.not_lt, Int.not_le, true_implies, false_implies, and_true, true_and, not_true_eq_false, not_false_eq_true, true_or, or_true, or_false, false_or])); (conv => whnf)
    rw [show 8191 * k + 131071 = 8191 * k + 131071 from rfl] at h
    exact h
theorem and31 (x : Int32) : ∃ c : Int, 0 ≤ c ∧ c < 2147483648 ∧ x &&& iI 2147483647 = iI c := by
  refine ⟨(x &&& iI 2147483647).toInt, ?_, ?_, (iI_of _).symm⟩
  · have h2 : (x &&& iI 2147483647).toInt = ((x.toBitVec &&& 2147483647#32).toInt) := rfl
    have h3 : (x.toBitVec &&& 2147483647#32).toNat ≤ 2147483647 := by
      rw [BitVec.toNat_and]
      exact Nat.and_le_right
    rw [h2, BitVec.toInt_eq_toNat_of_lt (by omega)]
    omega
  · have h2 : (x &&& iI 2147483647).toInt = ((x.toBitVec &&& 2147483647#32).toInt) := rfl
    have h3 : (x.toBitVec &&& 2147483647#32).toNat ≤ 2147483647 := by
      rw [BitVec.toNat_and]
      exact Nat.and_le_right
    rw [h2, BitVec.toInt_eq_toNat_of_lt (by omega)]
    omega
theorem c_Lw_draw {d mc ms : Nat} {L : Nat} {xs : Nat → Int32} {w : PW} {K : Option Value → PW → Prop} {KX : String → PW → Prop} {k a b : Int} (hL : L ≤ 1000) (k0 : 0 ≤ k) (k1 : k ≤ 1000) (a0 : 0 ≤ a) (ab : a ≤ b) (b1 : b ≤ 1000000000) (h : ∀ z, a ≤ z → z ≤ b → K (some (.int (iI z))) w) : WGn 0 L xs M_Lw_draw (d + 1) mc ms [.ref 3300, .int (iI k), .int (iI a), .int (iI b)] w K KX := by
  obtain ⟨c, c0, c1, hc⟩ := and31 (clF L xs k)
  have e1 := Int.emod_nonneg c (b := b - a + 1) (by omega)
  have e2 := Int.emod_lt_of_pos c (show 0 < b - a + 1 by omega)
  have h := h (a + c % (b - a + 1)) (by omega) (by omega)
  refine methG (by decide +kernel) (tz_Lw rfl) rfl [some (.ref 3300), some (.int (iI k)), some (.int (iI a)), some (.int (iI b))] rfl ?_
  refine runP (k_Lw_draw L xs) [] 900 ?_
  (repeat ((conv => whnf); simp (disch := omega) only [Int.cast_ofNat_Int, Int.reduceToNat, iI_tt, Int.toNat_natCast, iI_add, iI_sub, iI_mul, iI_neg, lI_add, lI_sub, lI_mul, lI_neg, i2l_, l2i_, iI_lt, iI_le, iI_eq, lI_lt, lI_le, lI_eq, iI_lt0, iI_le0, iI_0lt, iI_0le, iI_eq0, iI_eq1, lI_lt0, lI_le0, lI_0lt, lI_0le, lI_eq0, ix_cl, ix_iff, upd_iI, updL_lI, lI_divF, lI_remF, iI_divF, iI_remF, em_eq, Int.not_lt, Int.not_le, true_implies, false_implies, and_true, true_and, not_true_eq_false, not_false_eq_true, true_or, or_true, or_false, false_or])); (conv => whnf)
  refine ⟨⟨by omega, by omega⟩, ?_⟩
  refine c_Lw_cell hL k0 k1 ?_
  refine ⟨⟨⟨Or.inr (by decide), trivial, trivial, trivial, trivial⟩, trivial, trivial⟩, ?_⟩
  (repeat ((conv => whnf); simp (disch := omega) only [hc, Int.cast_ofNat_Int, Int.reduceToNat, iI_tt, Int.toNat_natCast, iI_add, iI_sub, iI_mul, iI_neg, lI_add, lI_sub, lI_mul, lI_neg, i2l_, l2i_, iI_lt, iI_le, iI_eq, lI_lt, lI_le, lI_eq, iI_lt0, iI_le0, iI_0lt, iI_0le, iI_eq0, iI_eq1, lI_lt0, lI_le0, lI_0lt, lI_0le, lI_eq0, ix_cl, ix_iff, upd_iI, updL_lI, lI_divF, lI_remF, iI_divF, iI_remF, em_eq, Int.not_lt, Int.not_le, true_implies, false_implies, and_true, true_and, not_true_eq_false, not_false_eq_true, true_or, or_true, or_false, false_or])); (conv => whnf)
  refine ⟨by omega, ?_⟩
  (repeat ((conv => whnf); simp (disch := omega) only [Int.cast_ofNat_Int, Int.reduceToNat, iI_tt, Int.toNat_natCast, iI_add, iI_sub, iI_mul, iI_neg, lI_add, lI_sub, lI_mul, lI_neg, i2l_, l2i_, iI_lt, iI_le, iI_eq, lI_lt, lI_le, lI_eq, iI_lt0, iI_le0, iI_0lt, iI_0le, iI_eq0, iI_eq1, lI_lt0, lI_le0, lI_0lt, lI_0le, lI_eq0, ix_cl, ix_iff, upd_iI, updL_lI, lI_divF, lI_remF, iI_divF, iI_remF, em_eq, Int.not_lt, Int.not_le, true_implies, false_implies, and_true, true_and, not_true_eq_false, not_false_eq_true, true_or, or_true, or_false, false_or])); (conv => whnf)
  exact h
