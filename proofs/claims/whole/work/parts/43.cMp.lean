/-! THE REFERENCE: its scanner -/
def mtk (b : Nat → Int) (n p : Int) : Int := if p < n then (if isLe (b p.toNat) = true then 1 else if isDi (b p.toNat) = true then (if en b n p - p ≤ 9 then 2 else 4) else if isSg (b p.toNat) = true then 3 else 4) else 0
def MT (b : Nat → Int) (n p fr tt tk vl : Int) : Prop := (fr = p ∧ 0 ≤ p ∧ p ≤ n) ∧ tt = en b n p ∧ tk = mtk b n p ∧ (kd b n p = 258 → vl = amt b n p)
theorem mtk_b {b : Nat → Int} {n p : Int} : 0 ≤ mtk b n p ∧ mtk b n p ≤ 4 := by
  unfold mtk
  (repeat' split) <;> omega
/-! what kinds mean to it -/
theorem wIs_0 {b : Nat → Int} {p e c : Int} {t : List Int} (h : wIs b p e (c :: t) = true) : b p.toNat = c ∧ e - p = (t.length : Int) + 1 := by
  obtain ⟨h1, h2⟩ := wIs_t.mp h
  have := h2 0 (by simp)
  simp only [Nat.add_zero, List.getD_cons_zero] at this
  refine ⟨this, ?_⟩
  rw [List.length_cons] at h1
  omega
theorem kd_word {b : Nat → Int} {n p : Int} : (mtk b n p = 1 ∧ wk b p (en b n p) ≠ 257) → kd b n p = wk b p (en b n p) := by
  rintro ⟨h1, h2⟩
  unfold mtk at h1
  unfold kd
  by_cases hp : p < n
  · rw [if_pos hp] at h1 ⊢
    by_cases hl : isLe (b p.toNat) = true
    · rw [if_pos hl, if_neg ?_]
      rintro ⟨h3, -⟩
      apply h2
      unfold wk
      (repeat' split) <;> first | rfl | (exfalso; next h => have := (wIs_0 h).2; simp at this; omega)
    · rw [if_neg hl] at h1
      (repeat' split at h1) <;> omega
  · rw [if_neg hp] at h1
    omega
theorem word_kd {b : Nat → Int} {n p : Int} (h : 260 ≤ kd b n p) : mtk b n p = 1 ∧ kd b n p = wk b p (en b n p) := by
  unfold kd at h ⊢
  unfold mtk
  by_cases hp : p < n
  · rw [if_pos hp] at h ⊢
    rw [if_pos hp]
    by_cases hl : isLe (b p.toNat) = true
    · rw [if_pos hl] at h ⊢
      rw [if_pos hl]
      by_cases hc : en b n p - p = 1 ∧ b p.toNat < 105
      · rw [if_pos hc] at h
        omega
      · rw [if_neg hc]
        exact ⟨rfl, rfl⟩
    · rw [if_neg hl] at h
      by_cases hd : isDi (b p.toNat) = true
      · rw [if_pos hd] at h
        split at h <;> omega
      · rw [if_neg hd] at h
        split at h
        · next hs => have := isSg_b hs; omega
        · omega
  · rw [if_neg hp] at h
    omega
theorem wk_at {b : Nat → Int} {p e : Int} {w : List Int} {c : Int} (h : (w = [109, 111, 100, 117, 108, 105] ∧ c = 260) ∨ (w = [99, 104, 101, 99, 107, 115] ∧ c = 261) ∨ (w = [115, 116, 114, 105, 99, 116] ∧ c = 262) ∨ (w = [115, 101, 116] ∧ c = 263) ∨ (w = [115, 99, 97, 108, 101] ∧ c = 264) ∨ (w = [115, 119, 97, 112] ∧ c = 265) ∨ (w = [109, 101, 110, 100] ∧ c = 266)) : wIs b p e w = true ↔ wk b p e = c := by
  constructor
  · intro hw
    unfold wk
    rcases h with ⟨rfl, rfl⟩ | ⟨rfl, rfl⟩ | ⟨rfl, rfl⟩ | ⟨rfl, rfl⟩ | ⟨rfl, rfl⟩ | ⟨rfl, rfl⟩ | ⟨rfl, rfl⟩
    all_goals
      have h0 := wIs_0 hw
      simp only [List.length_cons, List.length_nil] at h0
      repeat' first
        | rw [if_pos hw]
        | rw [if_neg (fun h9 => by have h8 := wIs_0 h9; simp only [List.length_cons, List.length_nil] at h8; omega)]
  · intro hw
    unfold wk at hw
    rcases h with ⟨rfl, rfl⟩ | ⟨rfl, rfl⟩ | ⟨rfl, rfl⟩ | ⟨rfl, rfl⟩ | ⟨rfl, rfl⟩ | ⟨rfl, rfl⟩ | ⟨rfl, rfl⟩
    all_goals
      repeat' first
        | assumption
        | (exfalso; omega)
        | split at hw
def wcod (p : Nat) (w : List Int) (c : Int) : Prop := sIs p w ∧ ∀ (b : Nat → Int) (q e : Int), wIs b q e w = true ↔ wk b q e = c
theorem r_1010 : wcod 1010 [109, 111, 100, 117, 108, 105] 260 := ⟨⟨by decide, by decide +kernel, by decide +kernel⟩, fun b q e => wk_at (Or.inl ⟨rfl, rfl⟩)⟩
theorem r_1011 : wcod 1011 [99, 104, 101, 99, 107, 115] 261 := ⟨⟨by decide, by decide +kernel, by decide +kernel⟩, fun b q e => wk_at (Or.inr (Or.inl ⟨rfl, rfl⟩))⟩
theorem r_1012 : wcod 1012 [115, 116, 114, 105, 99, 116] 262 := ⟨⟨by decide, by decide +kernel, by decide +kernel⟩, fun b q e => wk_at (Or.inr (Or.inr (Or.inl ⟨rfl, rfl⟩)))⟩
theorem r_1013 : wcod 1013 [115, 101, 116] 263 := ⟨⟨by decide, by decide +kernel, by decide +kernel⟩, fun b q e => wk_at (Or.inr (Or.inr (Or.inr (Or.inl ⟨rfl, rfl⟩))))⟩
theorem r_1014 : wcod 1014 [115, 99, 97, 108, 101] 264 := ⟨⟨by decide, by decide +kernel, by decide +kernel⟩, fun b q e => wk_at (Or.inr (Or.inr (Or.inr (Or.inr (Or.inl ⟨rfl, rfl⟩)))))⟩
theorem r_1015 : wcod 1015 [115, 119, 97, 112] 265 := ⟨⟨by decide, by decide +kernel, by decide +kernel⟩, fun b q e => wk_at (Or.inr (Or.inr (Or.inr (Or.inr (Or.inr (Or.inl ⟨rfl, rfl⟩))))))⟩
theorem r_1016 : wcod 1016 [109, 101, 110, 100] 266 := ⟨⟨by decide, by decide +kernel, by decide +kernel⟩, fun b q e => wk_at (Or.inr (Or.inr (Or.inr (Or.inr (Or.inr (Or.inr ⟨rfl, rfl⟩))))))⟩
theorem kd_lt {b : Nat → Int} {n p : Int} : kd b n p = 259 ↔ mtk b n p = 1 ∧ en b n p - p = 1 ∧ 97 ≤ b p.toNat ∧ b p.toNat ≤ 104 := by
  have hw := wk_b (b := b) (p := p) (e := en b n p)
  have hw2 : wk b p (en b n p) ≠ 259 := by
    unfold wk
    (repeat' split) <;> omega
  unfold kd mtk
  by_cases hp : p < n
  · rw [if_pos hp, if_pos hp]
    by_cases hl : isLe (b p.toNat) = true
    · rw [if_pos hl, if_pos hl]
      have := isLe_t.mp hl
      split <;> omega
    · rw [if_neg hl, if_neg hl]
      by_cases hd : isDi (b p.toNat) = true
      · rw [if_pos hd, if_pos hd]
        (repeat' split) <;> omega
      · rw [if_neg hd, if_neg hd]
        by_cases hs : isSg (b p.toNat) = true
        · have := isSg_b hs
          rw [if_pos hs, if_pos hs]
          omega
        · rw [if_neg hs, if_neg hs]
          omega
  · rw [if_neg hp, if_neg hp]
    omega
theorem kd_sg {b : Nat → Int} {n p c : Int} (hc : isSg c = true) : kd b n p = c ↔ mtk b n p = 3 ∧ b p.toNat = c := by
  have hw := wk_b (b := b) (p := p) (e := en b n p)
  have hcb := isSg_b hc
  unfold kd mtk
  by_cases hp : p < n
  · rw [if_pos hp, if_pos hp]
    by_cases hl : isLe (b p.toNat) = true
    · rw [if_pos hl, if_pos hl]
      split <;> omega
    · rw [if_neg hl, if_neg hl]
      by_cases hd : isDi (b p.toNat) = true
      · rw [if_pos hd, if_pos hd]
        (repeat' split) <;> omega
      · rw [if_neg hd, if_neg hd]
        by_cases hs : isSg (b p.toNat) = true
        · rw [if_pos hs, if_pos hs]
          omega
        · rw [if_neg hs, if_neg hs]
          refine ⟨fun h => by omega, fun h => by omega⟩
  · rw [if_neg hp, if_neg hp]
    omega
theorem kd_nu {b : Nat → Int} {n p : Int} : kd b n p = 258 ↔ mtk b n p = 2 := by
  have hw : wk b p (en b n p) ≠ 258 := by
    unfold wk
    (repeat' split) <;> omega
  unfold kd mtk
  by_cases hp : p < n
  · rw [if_pos hp, if_pos hp]
    by_cases hl : isLe (b p.toNat) = true
    · rw [if_pos hl, if_pos hl]
      split <;> omega
    · rw [if_neg hl, if_neg hl]
      by_cases hd : isDi (b p.toNat) = true
      · rw [if_pos hd, if_pos hd]
        (repeat' split) <;> omega
      · rw [if_neg hd, if_neg hd]
        by_cases hs : isSg (b p.toNat) = true
        · have := isSg_b hs
          rw [if_pos hs, if_pos hs]
          omega
        · rw [if_neg hs, if_neg hs]
          omega
  · rw [if_neg hp, if_neg hp]
    omega
theorem kd_en {b : Nat → Int} {n p : Int} : kd b n p = 256 ↔ mtk b n p = 0 := by
  have hw := wk_b (b := b) (p := p) (e := en b n p)
  unfold kd mtk
  by_cases hp : p < n
  · rw [if_pos hp, if_pos hp]
    by_cases hl : isLe (b p.toNat) = true
    · rw [if_pos hl, if_pos hl]
      split <;> omega
    · rw [if_neg hl, if_neg hl]
      by_cases hd : isDi (b p.toNat) = true
      · rw [if_pos hd, if_pos hd]
        (repeat' split) <;> omega
      · rw [if_neg hd, if_neg hd]
        by_cases hs : isSg (b p.toNat) = true
        · have := isSg_b hs
          rw [if_pos hs, if_pos hs]
          omega
        · rw [if_neg hs, if_neg hs]
          omega
  · rw [if_neg hp, if_neg hp]
    omega
/-! its methods -/
theorem c_Mm_byteAt {d mc ms : Nat} {t0 pm ik il ec eo fr tt tk vl tn sts ops opn tp ip ol : Int} {s dr kp ps rs stm op wi pu nb ou : Nat → Int} {f : Nat → Int32} {K : Option Value → PW → Prop} {KX : String → PW → Prop} {k : Int} (k0 : 0 ≤ k) (hl : 0 ≤ il ∧ il ≤ 500) (hk : k ≤ 500) (h : K (some (.int (iI (if k < il then bA f k.toNat else -1)))) (mmW t0 s dr kp ps pm ik rs f il ec eo fr tt tk vl tn stm sts op wi ops opn tp pu ip nb ou ol)) : WQ M_Mm_byteAt d mc ms [.ref 0, .int (iI k)] (mmW t0 s dr kp ps pm ik rs f il ec eo fr tt tk vl tn stm sts op wi ops opn tp pu ip nb ou ol) K KX := by
  refine methC (pf_Mm rfl) (tz_Mm rfl) rfl ?_
  refine run k_Mm_byteAt [] 900 ?_
  (repeat ((conv => whnf); simp (disch := omega) only [Int.cast_ofNat_Int, Int.reduceToNat, iI_tt, Int.toNat_natCast, iI_add, iI_sub, iI_mul, iI_neg, lI_add, lI_sub, lI_mul, lI_neg, i2l_, l2i_, iI_lt, iI_le, iI_eq, lI_lt, lI_le, lI_eq, iI_lt0, iI_le0, iI_0lt, iI_0le, iI_eq0, iI_eq1, lI_lt0, lI_le0, lI_0lt, lI_0le, lI_eq0, ix_cl, ix_iff, upd_iI, updL_lI, lI_divF, lI_remF, iI_divF, iI_remF, em_eq, Int.not_lt, Int.not_le, true_implies, false_implies, and_true, true_and, not_true_eq_false, not_false_eq_true, true_or, or_true, or_false, false_or])); (conv => whnf)
  (repeat ((conv => whnf); simp (disch := omega) only [bA_of, Int.cast_ofNat_Int, Int.reduceToNat, iI_tt, Int.toNat_natCast, iI_add, iI_sub, iI_mul, iI_neg, lI_add, lI_sub, lI_mul, lI_neg, i2l_, l2i_, iI_lt, iI_le, iI_eq, lI_lt, lI_le, lI_eq, iI_lt0, iI_le0, iI_0lt, iI_0le, iI_eq0, iI_eq1, lI_lt0, lI_le0, lI_0lt, lI_0le, lI_eq0, ix_cl, ix_iff, upd_iI, updL_lI, lI_divF, lI_remF, iI_divF, iI_remF, em_eq, Int.not_lt, Int.not_le, true_implies, false_implies, and_true, true_and, not_true_eq_false, not_false_eq_true, true_or, or_true, or_false, false_or])); (conv => whnf)
  repeat' ((first | (refine ⟨fun _ => ?_, fun hb => absurd hb (by omega)⟩) | (refine ⟨fun hb => absurd hb (by omega), fun _ => ?_⟩) | (refine ⟨by omega, ?_⟩) | (refine ⟨⟨by omega, (by (conv => whnf); exact trivial)⟩, ?_⟩) | (refine ⟨(Nat.le_of_ble_eq_true rfl), bWp_ok _ (by (conv => whnf); exact trivial), ?_⟩) | (refine ⟨fun _ => ?_, fun _ => ?_⟩) | fail) <;> ((repeat ((conv => whnf); simp (disch := omega) only [bA_of, Int.cast_ofNat_Int, Int.reduceToNat, iI_tt, Int.toNat_natCast, iI_add, iI_sub, iI_mul, iI_neg, lI_add, lI_sub, lI_mul, lI_neg, i2l_, l2i_, iI_lt, iI_le, iI_eq, lI_lt, lI_le, lI_eq, iI_lt0, iI_le0, iI_0lt, iI_0le, iI_eq0, iI_eq1, lI_lt0, lI_le0, lI_0lt, lI_0le, lI_eq0, ix_cl, ix_iff, upd_iI, updL_lI, lI_divF, lI_remF, iI_divF, iI_remF, em_eq, Int.not_lt, Int.not_le, true_implies, false_implies, and_true, true_and, not_true_eq_false, not_false_eq_true, true_or, or_true, or_false, false_or])); (conv => whnf)))
  · rw [if_neg (by omega)] at h
    exact h
  · rw [if_pos (by omega)] at h
    exact h
theorem c_Mm_isSignByte {d mc ms : Nat} {w : PW} {K : Option Value → PW → Prop} {KX : String → PW → Prop} {c : Int} (hc : r32 c) (t9 : isSg c = true → K (some (.int (iI 1))) w) (f9 : ¬ isSg c = true → K (some (.int (iI 0))) w) : WQ M_Mm_isSignByte d mc ms [.int (iI c)] w K KX := by
  rw [isSg_t] at t9 f9
  refine methC (pf_Mm rfl) (tz_Mm rfl) rfl ?_
  refine run k_Mm_isSignByte [] 900 ?_
  (repeat ((conv => whnf); simp (disch := omega) only [Int.cast_ofNat_Int, Int.reduceToNat, iI_tt, Int.toNat_natCast, iI_add, iI_sub, iI_mul, iI_neg, lI_add, lI_sub, lI_mul, lI_neg, i2l_, l2i_, iI_lt, iI_le, iI_eq, lI_lt, lI_le, lI_eq, iI_lt0, iI_le0, iI_0lt, iI_0le, iI_eq0, iI_eq1, lI_lt0, lI_le0, lI_0lt, lI_0le, lI_eq0, ix_cl, ix_iff, upd_iI, updL_lI, lI_divF, lI_remF, iI_divF, iI_remF, em_eq, Int.not_lt, Int.not_le, true_implies, false_implies, and_true, true_and, not_true_eq_false, not_false_eq_true, true_or, or_true, or_false, false_or])); (conv => whnf)
  (repeat ((conv => whnf); simp (disch := omega) only [Int.cast_ofNat_Int, Int.reduceToNat, iI_tt, Int.toNat_natCast, iI_add, iI_sub, iI_mul, iI_neg, lI_add, lI_sub, lI_mul, lI_neg, i2l_, l2i_, iI_lt, iI_le, iI_eq, lI_lt, lI_le, lI_eq, iI_lt0, iI_le0, iI_0lt, iI_0le, iI_eq0, iI_eq1, lI_lt0, lI_le0, lI_0lt, lI_0le, lI_eq0, ix_cl, ix_iff, upd_iI, updL_lI, lI_divF, lI_remF, iI_divF, iI_remF, em_eq, Int.not_lt, Int.not_le, true_implies, false_implies, and_true, true_and, not_true_eq_false, not_false_eq_true, true_or, or_true, or_false, false_or])); (conv => whnf)
  repeat' ((first | (refine ⟨fun _ => ?_, fun hb => absurd hb (by omega)⟩) | (refine ⟨fun hb => absurd hb (by omega), fun _ => ?_⟩) | (refine ⟨by omega, ?_⟩) | (refine ⟨⟨by omega, (by (conv => whnf); exact trivial)⟩, ?_⟩) | (refine ⟨(Nat.le_of_ble_eq_true rfl), bWp_ok _ (by (conv => whnf); exact trivial), ?_⟩) | (refine ⟨fun _ => ?_, fun _ => ?_⟩) | fail) <;> ((repeat ((conv => whnf); simp (disch := omega) only [Int.cast_ofNat_Int, Int.reduceToNat, iI_tt, Int.toNat_natCast, iI_add, iI_sub, iI_mul, iI_neg, lI_add, lI_sub, lI_mul, lI_neg, i2l_, l2i_, iI_lt, iI_le, iI_eq, lI_lt, lI_le, lI_eq, iI_lt0, iI_le0, iI_0lt, iI_0le, iI_eq0, iI_eq1, lI_lt0, lI_le0, lI_0lt, lI_0le, lI_eq0, ix_cl, ix_iff, upd_iI, updL_lI, lI_divF, lI_remF, iI_divF, iI_remF, em_eq, Int.not_lt, Int.not_le, true_implies, false_implies, and_true, true_and, not_true_eq_false, not_false_eq_true, true_or, or_true, or_false, false_or])); (conv => whnf)))
  all_goals first | exact t9 (by omega) | exact f9 (by omega)
