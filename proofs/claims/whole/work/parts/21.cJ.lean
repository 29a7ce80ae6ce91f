/-! CONTRACTS OF THE JDK's METHODS -/
theorem c_jMath_floorMod {d mc ms : Nat} {w : PW} {K : Option Value → PW → Prop} {KX : String → PW → Prop} {x y : Int} (hx : -4611686018427387904 < x) (hx2 : x < 4611686018427387904) (h0 : 0 < y) (hy : y < 4611686018427387904) (h : K (some (.long (lI (x % y)))) w) : WQ M_jMath_floorMod d mc ms [.long (lI x), .long (lI y)] w K KX := by
  have e1 := Int.mul_tdiv_add_tmod x y
  have e2 : x.tmod y = if x % y = 0 ∨ 0 ≤ x then x % y else x % y - y := by
    rw [Int.tmod_eq_emod]
    split
    · next h => rw [if_pos (by rcases h with h | h; exact Or.inr h; exact Or.inl (Int.emod_eq_zero_of_dvd h))]; simp
    · next h => rw [if_neg (by intro h2; apply h; rcases h2 with h2 | h2; exact Or.inr (Int.dvd_of_emod_eq_zero h2); exact Or.inl h2)]; omega
  have e3 := Int.emod_nonneg x (b := y) (by omega)
  have e4 := Int.emod_lt_of_pos x h0
  have e5 : -4611686018427387904 < x.tdiv y ∧ x.tdiv y < 4611686018427387904 := by
    have := Int.natAbs_tdiv_le_natAbs x y
    omega
  have e6 : lI x - lI x / lI y * lI y = lI (x.tmod y) := lI_rem ⟨by omega, by omega⟩ ⟨by omega, by omega⟩ ⟨by omega, by omega⟩
  refine methC (by decide +kernel) (tz_jMath rfl) rfl ?_
  refine run k_jMath_floorMod [] 900 ?_
  (repeat ((conv => whnf); simp (disch := omega) only [Int.cast_ofNat_Int, Int.toNat_natCast, iI_add, iI_sub, iI_mul, iI_neg, lI_add, lI_sub, lI_mul, lI_neg, i2l_, l2i_, iI_lt, iI_le, iI_eq, lI_lt, lI_le, lI_eq, iI_lt0, iI_le0, iI_0lt, iI_0le, iI_eq0, lI_lt0, lI_le0, lI_0lt, lI_0le, lI_eq0, ix_cl, ix_iff, upd_iI, updL_lI, lI_divF, lI_remF, iI_divF, iI_remF, Int.not_lt, Int.not_le, true_implies, false_implies, and_true, true_and, not_true_eq_false, not_false_eq_true])); (conv => whnf)
  rw [e6]
  generalize x.tmod y = r at *
  refine ⟨by omega, ?_⟩
  (repeat ((conv => whnf); simp (disch := omega) only [Int.cast_ofNat_Int, Int.toNat_natCast, iI_add, iI_sub, iI_mul, iI_neg, lI_add, lI_sub, lI_mul, lI_neg, i2l_, l2i_, iI_lt, iI_le, iI_eq, lI_lt, lI_le, lI_eq, iI_lt0, iI_le0, iI_0lt, iI_0le, iI_eq0, lI_lt0, lI_le0, lI_0lt, lI_0le, lI_eq0, ix_cl, ix_iff, upd_iI, updL_lI, lI_divF, lI_remF, iI_divF, iI_remF, Int.not_lt, Int.not_le, true_implies, false_implies, and_true, true_and, not_true_eq_false, not_false_eq_true])); (conv => whnf)
  skip
