/-! NUMBERS AS TEXTS, from behind, as the JDK writes them -/
theorem T10_s (k : Nat) : T10 (k + 1) = T10 k * 10 := rfl
theorem wdL_snoc {z : Int} : ∀ k, wdL z (k + 1) = wdL (z / 10) k ++ [48 + z % 10]
  | 0 => by
    show [48 + z / (T10 0 * 10) % 10, 48 + z / T10 0 % 10] = [48 + z / 10 / T10 0 % 10, 48 + z % 10]
    rw [show T10 0 = 1 from rfl, Int.one_mul, Int.ediv_one, Int.ediv_one]
  | k + 1 => by
    show (48 + z / T10 (k + 1 + 1) % 10) :: wdL z (k + 1) = ((48 + z / 10 / T10 (k + 1) % 10) :: wdL (z / 10) k) ++ [48 + z % 10]
    rw [wdL_snoc k, T10_s (k + 1), Int.mul_comm, ← Int.ediv_ediv_of_nonneg (by decide)]
    rfl
theorem kD_s {z : Int} (h : 10 ≤ z) (h2 : z < 10000000000) : kD z = kD (z / 10) + 1 := by
  unfold kD
  (repeat' split) <;> omega
def tx (z : Int) : List Int := wdL z (kD z)
theorem tx_1 {z : Int} (h0 : 0 ≤ z) (h1 : z < 10) : tx z = [48 + z] := by
  have e : kD z = 0 := by unfold kD; rw [if_pos h1]
  unfold tx
  rw [e]
  show [48 + z / T10 0 % 10] = _
  rw [show T10 0 = 1 from rfl, Int.ediv_one, Int.emod_eq_of_lt h0 h1]
theorem tx_10 {z : Int} (h : 10 ≤ z) (h2 : z < 10000000000) : tx z = tx (z / 10) ++ [48 + z % 10] := by
  unfold tx
  rw [kD_s h h2, wdL_snoc]
theorem tx_100 {z : Int} (h : 100 ≤ z) (h2 : z < 10000000000) : tx z = tx (z / 100) ++ [48 + z / 10 % 10, 48 + z % 10] := by
  rw [tx_10 (by omega) h2, tx_10 (z := z / 10) (by omega) (by omega), Int.ediv_ediv_of_nonneg (by decide), List.append_assoc]
  rfl
theorem tx_2 {z : Int} (h : 10 ≤ z) (h2 : z < 100) : tx z = [48 + z / 10, 48 + z % 10] := by
  rw [tx_10 h (by omega), tx_1 (by omega) (by omega)]
  rfl
theorem tx_len {z : Int} : 1 ≤ (tx z).length := by
  unfold tx
  rw [wdL_len]
  omega
theorem deL_tx {v : Int} : deL v = (if v < 0 then [45] else []) ++ tx (if v < 0 then -v else v) := by
  unfold deL tx
  split <;> rfl
theorem kD_T {z : Int} {i : Nat} (h1 : 1 ≤ i) (h9 : i ≤ 9) : z < T10 i ↔ kD z < i := by
  have hi9 : i = 1 ∨ i = 2 ∨ i = 3 ∨ i = 4 ∨ i = 5 ∨ i = 6 ∨ i = 7 ∨ i = 8 ∨ i = 9 := by omega
  have t1 : T10 1 = 10 := by decide
  have t2 : T10 2 = 100 := by decide
  have t3 : T10 3 = 1000 := by decide
  have t4 : T10 4 = 10000 := by decide
  have t5 : T10 5 = 100000 := by decide
  have t6 : T10 6 = 1000000 := by decide
  have t7 : T10 7 = 10000000 := by decide
  have t8 : T10 8 = 100000000 := by decide
  have t9 : T10 9 = 1000000000 := by decide
  unfold kD
  rcases hi9 with rfl | rfl | rfl | rfl | rfl | rfl | rfl | rfl | rfl
  · rw [t1]; (repeat' split) <;> omega
  · rw [t2]; (repeat' split) <;> omega
  · rw [t3]; (repeat' split) <;> omega
  · rw [t4]; (repeat' split) <;> omega
  · rw [t5]; (repeat' split) <;> omega
  · rw [t6]; (repeat' split) <;> omega
  · rw [t7]; (repeat' split) <;> omega
  · rw [t8]; (repeat' split) <;> omega
  · rw [t9]; (repeat' split) <;> omega
/-- written from behind: S lies at pos up to e; below pos nothing has changed -/
def TW (g0 g : Nat → Int) (e pos : Int) (S : List Int) : Prop := BB g ∧ pos + (S.length : Int) = e ∧ 0 ≤ pos ∧ (∀ j : Nat, (j : Int) < pos → g j = g0 j) ∧ ∀ j x, S[j]? = some x → g (pos.toNat + j) = x
theorem TW.nil {g : Nat → Int} {e : Int} (hB : BB g) (h : 0 ≤ e) : TW g g e e [] := ⟨hB, by simp, h, fun _ _ => rfl, fun j x h => by cases h⟩
theorem TW.cons {g0 g : Nat → Int} {e pos c : Int} {S : List Int} (h : TW g0 g e pos S) (hp : 1 ≤ pos) (c0 : 0 ≤ c) (c1 : c ≤ 127) : TW g0 (upI g (pos - 1).toNat c) e (pos - 1) (c :: S) := by
  obtain ⟨a1, a2, a3, a4, a5⟩ := h
  refine ⟨a1.up c0 c1, by rw [List.length_cons]; omega, by omega, fun j hj => ?_, fun j x hx => ?_⟩
  · rw [upI_n (by omega)]
    exact a4 j (by omega)
  · cases j with
    | zero =>
      simp only [List.getElem?_cons_zero, Option.some.injEq] at hx
      rw [Nat.add_zero, upI_s, hx]
    | succ j =>
      rw [List.getElem?_cons_succ] at hx
      rw [upI_n (by omega), show (pos - 1).toNat + (j + 1) = pos.toNat + j by omega]
      exact a5 j x hx
theorem TW.ow {g0 g : Nat → Int} {e pos : Int} {S L : List Int} (h : TW g0 g e pos S) (hO : OW L g0 pos) : OW (L ++ S) g e := by
  obtain ⟨a1, a2, a3, a4, a5⟩ := h
  obtain ⟨b1, b2⟩ := hO
  refine ⟨by rw [List.length_append]; omega, fun j x hx => ?_⟩
  rw [List.getElem?_append] at hx
  by_cases e9 : j < L.length
  · rw [if_pos e9] at hx
    rw [a4 j (by omega)]
    exact b2 j x hx
  · rw [if_neg e9] at hx
    have := a5 _ x hx
    rw [show pos.toNat + (j - L.length) = j by omega] at this
    exact this
theorem dO_fin : ∀ c : Fin 100, vp_nar FieldType.byte (digO c.val) = iI (48 + (c.val : Int) % 10) := by decide +kernel
theorem dT_fin : ∀ c : Fin 100, vp_nar FieldType.byte (digT c.val) = iI (48 + (c.val : Int) / 10) := by decide +kernel
theorem dO {z : Int} (h0 : 0 ≤ z) (h1 : z < 100) : vp_nar FieldType.byte (digO z.toNat) = iI (48 + z % 10) := by
  have h := dO_fin ⟨z.toNat, by omega⟩
  simp only at h
  rw [h]
  congr 1
  omega
theorem dT {z : Int} (h0 : 0 ≤ z) (h1 : z < 100) : vp_nar FieldType.byte (digT z.toNat) = iI (48 + z / 10) := by
  have h := dT_fin ⟨z.toNat, by omega⟩
  simp only at h
  rw [h]
  congr 1
  omega
theorem nar45 : vp_nar FieldType.byte (iI 45) = iI 45 := by decide +kernel
theorem iI_divN {z : Int} (h0 : 0 ≤ z) (h1 : z < 2147483648) : iI (-z) / iI 100 = iI (-(z / 100)) := by
  have e : (-z).tdiv 100 = -(z / 100) := by
    rw [Int.neg_tdiv, Int.tdiv_eq_ediv_of_nonneg h0]
  rw [iI_div ⟨by omega, by omega⟩ ⟨by decide, by decide⟩ (by rw [e]; exact ⟨by omega, by omega⟩), e]
theorem lp_ss {d mc ms : Nat} {w : PW} {K : Option Value → PW → Prop} {KX : String → PW → Prop} {z dg : Int} (z0 : 0 ≤ z) (z9 : z ≤ 999999999) (d0 : 0 ≤ dg ∧ dg ≤ 1) (h : K (some (.int (iI ((kD z : Int) + 1 + dg)))) w) : ∀ (q i : Nat), i + q = kD z + 1 → 1 ≤ i → i ≤ 9 →
    GO M_jInt_stringSize d mc ms 16 [some (.int (iI (-z))), some (.int (iI dg)), some (.int (iI (-(T10 i)))), some (.int (iI (i : Int)))] [] w K KX := by
  intro q
  induction q with
  | zero =>
    intro i hi h1 h9
    have hk := (kD_T (z := z) h1 h9).mpr (by omega)
    have hT := T10_b h9
    rw [show (kD z : Int) + 1 = (i : Int) by omega] at h
    refine run k_jInt_stringSize [] 900 ?_
    (repeat ((conv => whnf); simp (disch := omega) only [Int.cast_ofNat_Int, Int.reduceToNat, iI_tt, Int.toNat_natCast, iI_add, iI_sub, iI_mul, iI_neg, lI_add, lI_sub, lI_mul, lI_neg, i2l_, l2i_, iI_lt, iI_le, iI_eq, lI_lt, lI_le, lI_eq, iI_lt0, iI_le0, iI_0lt, iI_0le, iI_eq0, iI_eq1, lI_lt0, lI_le0, lI_0lt, lI_0le, lI_eq0, ix_cl, ix_iff, upd_iI, updL_lI, lI_divF, lI_remF, iI_divF, iI_remF, em_eq, Int.not_lt, Int.not_le, true_implies, false_implies, and_true, true_and, not_true_eq_false, not_false_eq_true, true_or, or_true, or_false, false_or])); (conv => whnf)
    (repeat ((conv => whnf); simp (disch := omega) only [Int.cast_ofNat_Int, Int.reduceToNat, iI_tt, Int.toNat_natCast, iI_add, iI_sub, iI_mul, iI_neg, lI_add, lI_sub, lI_mul, lI_neg, i2l_, l2i_, iI_lt, iI_le, iI_eq, lI_lt, lI_le, lI_eq, iI_lt0, iI_le0, iI_0lt, iI_0le, iI_eq0, iI_eq1, lI_lt0, lI_le0, lI_0lt, lI_0le, lI_eq0, ix_cl, ix_iff, upd_iI, updL_lI, lI_divF, lI_remF, iI_divF, iI_remF, em_eq, Int.not_lt, Int.not_le, true_implies, false_implies, and_true, true_and, not_true_eq_false, not_false_eq_true, true_or, or_true, or_false, false_or])); (conv => whnf)
    repeat' ((first | (refine ⟨fun _ => ?_, fun hb => absurd hb (by omega)⟩) | (refine ⟨fun hb => absurd hb (by omega), fun _ => ?_⟩) | (refine ⟨by omega, ?_⟩) | (refine ⟨⟨by omega, (by (conv => whnf); exact trivial)⟩, ?_⟩) | (refine ⟨(Nat.le_of_ble_eq_true rfl), bWp_ok _ (by (conv => whnf); exact trivial), ?_⟩) | (refine ⟨fun _ => ?_, fun _ => ?_⟩) | fail) <;> ((repeat ((conv => whnf); simp (disch := omega) only [Int.cast_ofNat_Int, Int.reduceToNat, iI_tt, Int.toNat_natCast, iI_add, iI_sub, iI_mul, iI_neg, lI_add, lI_sub, lI_mul, lI_neg, i2l_, l2i_, iI_lt, iI_le, iI_eq, lI_lt, lI_le, lI_eq, iI_lt0, iI_le0, iI_0lt, iI_0le, iI_eq0, iI_eq1, lI_lt0, lI_le0, lI_0lt, lI_0le, lI_eq0, ix_cl, ix_iff, upd_iI, updL_lI, lI_divF, lI_remF, iI_divF, iI_remF, em_eq, Int.not_lt, Int.not_le, true_implies, false_implies, and_true, true_and, not_true_eq_false, not_false_eq_true, true_or, or_true, or_false, false_or])); (conv => whnf)))
    all_goals first | exact h | (exfalso; omega)
  | succ q ih =>
    intro i hi h1 h9
    have hk8 : kD z ≤ 8 := by
      have := (kD_T (z := z) (i := 9) (by decide) (by decide)).mp (by rw [show T10 9 = 1000000000 by decide]; omega)
      omega
    have hk : ¬ z < T10 i := fun h9' => by have := (kD_T (z := z) h1 h9).mp h9'; omega
    have hT := T10_b h9
    have hT2 := T10_s i
    have hT3 := T10_b (k := i + 1) (by omega)
    have fin := ih (i + 1) (by omega) (by omega) (by omega)
    rw [T10_s, show ((i + 1 : Nat) : Int) = (i : Int) + 1 by omega, show -(T10 i * 10) = 10 * -T10 i by omega] at fin
    refine run k_jInt_stringSize [16] 900 ?_
    (repeat ((conv => whnf); simp (disch := omega) only [Int.cast_ofNat_Int, Int.reduceToNat, iI_tt, Int.toNat_natCast, iI_add, iI_sub, iI_mul, iI_neg, lI_add, lI_sub, lI_mul, lI_neg, i2l_, l2i_, iI_lt, iI_le, iI_eq, lI_lt, lI_le, lI_eq, iI_lt0, iI_le0, iI_0lt, iI_0le, iI_eq0, iI_eq1, lI_lt0, lI_le0, lI_0lt, lI_0le, lI_eq0, ix_cl, ix_iff, upd_iI, updL_lI, lI_divF, lI_remF, iI_divF, iI_remF, em_eq, Int.not_lt, Int.not_le, true_implies, false_implies, and_true, true_and, not_true_eq_false, not_false_eq_true, true_or, or_true, or_false, false_or])); (conv => whnf)
    (repeat ((conv => whnf); simp (disch := omega) only [Int.cast_ofNat_Int, Int.reduceToNat, iI_tt, Int.toNat_natCast, iI_add, iI_sub, iI_mul, iI_neg, lI_add, lI_sub, lI_mul, lI_neg, i2l_, l2i_, iI_lt, iI_le, iI_eq, lI_lt, lI_le, lI_eq, iI_lt0, iI_le0, iI_0lt, iI_0le, iI_eq0, iI_eq1, lI_lt0, lI_le0, lI_0lt, lI_0le, lI_eq0, ix_cl, ix_iff, upd_iI, updL_lI, lI_divF, lI_remF, iI_divF, iI_remF, em_eq, Int.not_lt, Int.not_le, true_implies, false_implies, and_true, true_and, not_true_eq_false, not_false_eq_true, true_or, or_true, or_false, false_or])); (conv => whnf)
    repeat' ((first | (refine ⟨fun _ => ?_, fun hb => absurd hb (by omega)⟩) | (refine ⟨fun hb => absurd hb (by omega), fun _ => ?_⟩) | (refine ⟨by omega, ?_⟩) | (refine ⟨⟨by omega, (by (conv => whnf); exact trivial)⟩, ?_⟩) | (refine ⟨(Nat.le_of_ble_eq_true rfl), bWp_ok _ (by (conv => whnf); exact trivial), ?_⟩) | (refine ⟨fun _ => ?_, fun _ => ?_⟩) | fail) <;> ((repeat ((conv => whnf); simp (disch := omega) only [Int.cast_ofNat_Int, Int.reduceToNat, iI_tt, Int.toNat_natCast, iI_add, iI_sub, iI_mul, iI_neg, lI_add, lI_sub, lI_mul, lI_neg, i2l_, l2i_, iI_lt, iI_le, iI_eq, lI_lt, lI_le, lI_eq, iI_lt0, iI_le0, iI_0lt, iI_0le, iI_eq0, iI_eq1, lI_lt0, lI_le0, lI_0lt, lI_0le, lI_eq0, ix_cl, ix_iff, upd_iI, updL_lI, lI_divF, lI_remF, iI_divF, iI_remF, em_eq, Int.not_lt, Int.not_le, true_implies, false_implies, and_true, true_and, not_true_eq_false, not_false_eq_true, true_or, or_true, or_false, false_or])); (conv => whnf)))
    all_goals first | exact fin | (exfalso; omega)
theorem c_jInt_stringSize {d mc ms : Nat} {w : PW} {K : Option Value → PW → Prop} {KX : String → PW → Prop} {v : Int} (hv : -999999999 ≤ v ∧ v ≤ 999999999) (h : K (some (.int (iI ((deL v).length : Int)))) w) : WQ M_jInt_stringSize d mc ms [.int (iI v)] w K KX := by
  rw [deL_tx, List.length_append] at h
  unfold tx at h
  rw [wdL_len] at h
  by_cases e : v < 0
  · rw [if_pos e, if_pos e, List.length_singleton, show ((1 + (kD (-v) + 1) : Nat) : Int) = (kD (-v) : Int) + 1 + 1 by omega] at h
    have fin := lp_ss (d := d) (mc := mc) (ms := ms) (KX := KX) (z := -v) (dg := 1) (by omega) (by omega) ⟨by decide, by decide⟩ h (kD (-v)) 1 (by omega) (by decide) (by decide)
    rw [Int.neg_neg, show -(T10 1) = -10 by decide] at fin
    refine methC (by decide +kernel) (tz_jInt rfl) rfl ?_
    refine run k_jInt_stringSize [16] 900 ?_
    (repeat ((conv => whnf); simp (disch := omega) only [Int.cast_ofNat_Int, Int.reduceToNat, iI_tt, Int.toNat_natCast, iI_add, iI_sub, iI_mul, iI_neg, lI_add, lI_sub, lI_mul, lI_neg, i2l_, l2i_, iI_lt, iI_le, iI_eq, lI_lt, lI_le, lI_eq, iI_lt0, iI_le0, iI_0lt, iI_0le, iI_eq0, iI_eq1, lI_lt0, lI_le0, lI_0lt, lI_0le, lI_eq0, ix_cl, ix_iff, upd_iI, updL_lI, lI_divF, lI_remF, iI_divF, iI_remF, em_eq, Int.not_lt, Int.not_le, true_implies, false_implies, and_true, true_and, not_true_eq_false, not_false_eq_true, true_or, or_true, or_false, false_or])); (conv => whnf)
    (repeat ((conv => whnf); simp (disch := omega) only [Int.cast_ofNat_Int, Int.reduceToNat, iI_tt, Int.toNat_natCast, iI_add, iI_sub, iI_mul, iI_neg, lI_add, lI_sub, lI_mul, lI_neg, i2l_, l2i_, iI_lt, iI_le, iI_eq, lI_lt, lI_le, lI_eq, iI_lt0, iI_le0, iI_0lt, iI_0le, iI_eq0, iI_eq1, lI_lt0, lI_le0, lI_0lt, lI_0le, lI_eq0, ix_cl, ix_iff, upd_iI, updL_lI, lI_divF, lI_remF, iI_divF, iI_remF, em_eq, Int.not_lt, Int.not_le, true_implies, false_implies, and_true, true_and, not_true_eq_false, not_false_eq_true, true_or, or_true, or_false, false_or])); (conv => whnf)
    repeat' ((first | (refine ⟨fun _ => ?_, fun hb => absurd hb (by omega)⟩) | (refine ⟨fun hb => absurd hb (by omega), fun _ => ?_⟩) | (refine ⟨by omega, ?_⟩) | (refine ⟨⟨by omega, (by (conv => whnf); exact trivial)⟩, ?_⟩) | (refine ⟨(Nat.le_of_ble_eq_true rfl), bWp_ok _ (by (conv => whnf); exact trivial), ?_⟩) | (refine ⟨fun _ => ?_, fun _ => ?_⟩) | fail) <;> ((repeat ((conv => whnf); simp (disch := omega) only [Int.cast_ofNat_Int, Int.reduceToNat, iI_tt, Int.toNat_natCast, iI_add, iI_sub, iI_mul, iI_neg, lI_add, lI_sub, lI_mul, lI_neg, i2l_, l2i_, iI_lt, iI_le, iI_eq, lI_lt, lI_le, lI_eq, iI_lt0, iI_le0, iI_0lt, iI_0le, iI_eq0, iI_eq1, lI_lt0, lI_le0, lI_0lt, lI_0le, lI_eq0, ix_cl, ix_iff, upd_iI, updL_lI, lI_divF, lI_remF, iI_divF, iI_remF, em_eq, Int.not_lt, Int.not_le, true_implies, false_implies, and_true, true_and, not_true_eq_false, not_false_eq_true, true_or, or_true, or_false, false_or])); (conv => whnf)))
    all_goals first | exact fin | (exfalso; omega)
  · rw [if_neg e, if_neg e, List.length_nil, show ((0 + (kD v + 1) : Nat) : Int) = (kD v : Int) + 1 + 0 by omega] at h
    have fin := lp_ss (d := d) (mc := mc) (ms := ms) (KX := KX) (z := v) (dg := 0) (by omega) (by omega) ⟨by decide, by decide⟩ h (kD v) 1 (by omega) (by decide) (by decide)
    rw [show -(T10 1) = -10 by decide] at fin
    refine methC (by decide +kernel) (tz_jInt rfl) rfl ?_
    refine run k_jInt_stringSize [16] 900 ?_
    (repeat ((conv => whnf); simp (disch := omega) only [Int.cast_ofNat_Int, Int.reduceToNat, iI_tt, Int.toNat_natCast, iI_add, iI_sub, iI_mul, iI_neg, lI_add, lI_sub, lI_mul, lI_neg, i2l_, l2i_, iI_lt, iI_le, iI_eq, lI_lt, lI_le, lI_eq, iI_lt0, iI_le0, iI_0lt, iI_0le, iI_eq0, iI_eq1, lI_lt0, lI_le0, lI_0lt, lI_0le, lI_eq0, ix_cl, ix_iff, upd_iI, updL_lI, lI_divF, lI_remF, iI_divF, iI_remF, em_eq, Int.not_lt, Int.not_le, true_implies, false_implies, and_true, true_and, not_true_eq_false, not_false_eq_true, true_or, or_true, or_false, false_or])); (conv => whnf)
    (repeat ((conv => whnf); simp (disch := omega) only [Int.cast_ofNat_Int, Int.reduceToNat, iI_tt, Int.toNat_natCast, iI_add, iI_sub, iI_mul, iI_neg, lI_add, lI_sub, lI_mul, lI_neg, i2l_, l2i_, iI_lt, iI_le, iI_eq, lI_lt, lI_le, lI_eq, iI_lt0, iI_le0, iI_0lt, iI_0le, iI_eq0, iI_eq1, lI_lt0, lI_le0, lI_0lt, lI_0le, lI_eq0, ix_cl, ix_iff, upd_iI, updL_lI, lI_divF, lI_remF, iI_divF, iI_remF, em_eq, Int.not_lt, Int.not_le, true_implies, false_implies, and_true, true_and, not_true_eq_false, not_false_eq_true, true_or, or_true, or_false, false_or])); (conv => whnf)
    repeat' ((first | (refine ⟨fun _ => ?_, fun hb => absurd hb (by omega)⟩) | (refine ⟨fun hb => absurd hb (by omega), fun _ => ?_⟩) | (refine ⟨by omega, ?_⟩) | (refine ⟨⟨by omega, (by (conv => whnf); exact trivial)⟩, ?_⟩) | (refine ⟨(Nat.le_of_ble_eq_true rfl), bWp_ok _ (by (conv => whnf); exact trivial), ?_⟩) | (refine ⟨fun _ => ?_, fun _ => ?_⟩) | fail) <;> ((repeat ((conv => whnf); simp (disch := omega) only [Int.cast_ofNat_Int, Int.reduceToNat, iI_tt, Int.toNat_natCast, iI_add, iI_sub, iI_mul, iI_neg, lI_add, lI_sub, lI_mul, lI_neg, i2l_, l2i_, iI_lt, iI_le, iI_eq, lI_lt, lI_le, lI_eq, iI_lt0, iI_le0, iI_0lt, iI_0le, iI_eq0, iI_eq1, lI_lt0, lI_le0, lI_0lt, lI_0le, lI_eq0, ix_cl, ix_iff, upd_iI, updL_lI, lI_divF, lI_remF, iI_divF, iI_remF, em_eq, Int.not_lt, Int.not_le, true_implies, false_implies, and_true, true_and, not_true_eq_false, not_false_eq_true, true_or, or_true, or_false, false_or])); (conv => whnf)))
    all_goals first | exact fin | (exfalso; omega)
