/-! MACHINE NUMBERS BY WHOLE NUMBERS -/
theorem iI_toInt' (a : Int) : (iI a).toInt = a.bmod (2 ^ 32) := by unfold iI; exact Int32.toInt_ofInt
theorem lI_toInt' (a : Int) : (lI a).toInt = a.bmod (2 ^ 64) := by unfold lI; exact Int64.toInt_ofInt
theorem iI_t {a : Int} (h1 : -2147483648 ≤ a) (h2 : a < 2147483648) : (iI a).toInt = a := by
  rw [iI_toInt', Int.bmod_eq_of_le] <;> omega
theorem lI_t {a : Int} (h1 : -9223372036854775808 ≤ a) (h2 : a < 9223372036854775808) : (lI a).toInt = a := by
  rw [lI_toInt', Int.bmod_eq_of_le] <;> omega
theorem iI_of (x : Int32) : iI x.toInt = x := by unfold iI; exact Int32.ofInt_toInt x
theorem lI_of (x : Int64) : lI x.toInt = x := by unfold lI; exact Int64.ofInt_toInt x
theorem iI_add (a b : Int) : iI a + iI b = iI (a + b) := by
  apply Int32.toInt_inj.mp
  rw [Int32.toInt_add, iI_toInt', iI_toInt', iI_toInt', Int.bmod_add_bmod, Int.add_bmod_bmod]
theorem iI_sub (a b : Int) : iI a - iI b = iI (a - b) := by
  apply Int32.toInt_inj.mp
  rw [Int32.toInt_sub, iI_toInt', iI_toInt', iI_toInt', Int.bmod_sub_bmod, Int.sub_bmod_bmod]
theorem iI_mul (a b : Int) : iI a * iI b = iI (a * b) := by
  apply Int32.toInt_inj.mp
  rw [Int32.toInt_mul, iI_toInt', iI_toInt', iI_toInt', Int.bmod_mul_bmod, Int.mul_bmod_bmod]
theorem iI_neg (a : Int) : -iI a = iI (-a) := by
  apply Int32.toInt_inj.mp
  rw [Int32.toInt_neg, iI_toInt', iI_toInt']
  have := Int.sub_bmod_bmod (x := 0) (y := a) (n := 2 ^ 32)
  simpa using this
theorem lI_add (a b : Int) : lI a + lI b = lI (a + b) := by
  apply Int64.toInt_inj.mp
  rw [Int64.toInt_add, lI_toInt', lI_toInt', lI_toInt', Int.bmod_add_bmod, Int.add_bmod_bmod]
theorem lI_sub (a b : Int) : lI a - lI b = lI (a - b) := by
  apply Int64.toInt_inj.mp
  rw [Int64.toInt_sub, lI_toInt', lI_toInt', lI_toInt', Int.bmod_sub_bmod, Int.sub_bmod_bmod]
theorem lI_mul (a b : Int) : lI a * lI b = lI (a * b) := by
  apply Int64.toInt_inj.mp
  rw [Int64.toInt_mul, lI_toInt', lI_toInt', lI_toInt', Int.bmod_mul_bmod, Int.mul_bmod_bmod]
theorem lI_neg (a : Int) : -lI a = lI (-a) := by
  apply Int64.toInt_inj.mp
  rw [Int64.toInt_neg, lI_toInt', lI_toInt']
  have := Int.sub_bmod_bmod (x := 0) (y := a) (n := 2 ^ 64)
  simpa using this
/-- in the range of an int, of a long -/
abbrev r32 (a : Int) : Prop := -2147483648 ≤ a ∧ a < 2147483648
abbrev r64 (a : Int) : Prop := -9223372036854775808 ≤ a ∧ a < 9223372036854775808
theorem iI_lt {a b : Int} (ha : r32 a) (hb : r32 b) : iI a < iI b ↔ a < b := by rw [Int32.lt_iff_toInt_lt, iI_t ha.1 ha.2, iI_t hb.1 hb.2]
theorem iI_le {a b : Int} (ha : r32 a) (hb : r32 b) : iI a ≤ iI b ↔ a ≤ b := by rw [Int32.le_iff_toInt_le, iI_t ha.1 ha.2, iI_t hb.1 hb.2]
theorem iI_eq {a b : Int} (ha : r32 a) (hb : r32 b) : iI a = iI b ↔ a = b := by rw [← Int32.toInt_inj, iI_t ha.1 ha.2, iI_t hb.1 hb.2]
theorem lI_lt {a b : Int} (ha : r64 a) (hb : r64 b) : lI a < lI b ↔ a < b := by rw [Int64.lt_iff_toInt_lt, lI_t ha.1 ha.2, lI_t hb.1 hb.2]
theorem lI_le {a b : Int} (ha : r64 a) (hb : r64 b) : lI a ≤ lI b ↔ a ≤ b := by rw [Int64.le_iff_toInt_le, lI_t ha.1 ha.2, lI_t hb.1 hb.2]
theorem lI_eq {a b : Int} (ha : r64 a) (hb : r64 b) : lI a = lI b ↔ a = b := by rw [← Int64.toInt_inj, lI_t ha.1 ha.2, lI_t hb.1 hb.2]
theorem i0 : (0 : Int32) = iI 0 := rfl
theorem l0 : (0 : Int64) = lI 0 := rfl
theorem i2l_ {a : Int} (ha : r32 a) : (iI a).toInt64 = lI a := by
  apply Int64.toInt_inj.mp
  rw [Int32.toInt_toInt64, iI_t ha.1 ha.2, lI_t (by omega) (by omega)]
theorem l2i_ (a : Int) : (lI a).toInt32 = iI a := by
  apply Int32.toInt_inj.mp
  rw [Int64.toInt_toInt32, lI_toInt', iI_toInt', Int.bmod_bmod_of_dvd (by decide)]
theorem lI_div {a b : Int} (ha : r64 a) (hb : r64 b) (h : r64 (a.tdiv b)) : lI a / lI b = lI (a.tdiv b) := by
  apply Int64.toInt_inj.mp
  rw [Int64.toInt_div, lI_t ha.1 ha.2, lI_t hb.1 hb.2, lI_toInt']
theorem iI_div {a b : Int} (ha : r32 a) (hb : r32 b) (h : r32 (a.tdiv b)) : iI a / iI b = iI (a.tdiv b) := by
  apply Int32.toInt_inj.mp
  rw [Int32.toInt_div, iI_t ha.1 ha.2, iI_t hb.1 hb.2, iI_toInt']
theorem lI_rem {a b : Int} (ha : r64 a) (hb : r64 b) (h : r64 (a.tdiv b)) : lI a - lI a / lI b * lI b = lI (a.tmod b) := by
  rw [lI_div ha hb h, lI_mul, lI_sub]
  congr 1
  have := Int.mul_tdiv_add_tmod a b
  rw [Int.mul_comm] at this
  omega
theorem iI_rem {a b : Int} (ha : r32 a) (hb : r32 b) (h : r32 (a.tdiv b)) : iI a - iI a / iI b * iI b = iI (a.tmod b) := by
  rw [iI_div ha hb h, iI_mul, iI_sub]
  congr 1
  have := Int.mul_tdiv_add_tmod a b
  rw [Int.mul_comm] at this
  omega
/-- an index -/
theorem ix_cl {a : Int} (h0 : 0 ≤ a) (h : a < 2147483648) : (iI a).toNatClampNeg = a.toNat := by
  show (iI a).toInt.toNat = a.toNat
  rw [iI_t (by omega) h]
theorem ix_in {a : Int} {n : Nat} (h0 : 0 ≤ a) (h : a < n) (hn : n < 2147483648) : vp_in (iI a) n := by
  rw [vp_in_iff, iI_t (by omega) (by omega)]
  exact ⟨h0, h⟩
