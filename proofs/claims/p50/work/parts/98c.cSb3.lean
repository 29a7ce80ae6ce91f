/-! A NUMBER IS WRITTEN FROM BEHIND -/
def gcL (z ix pos sg : Int) : PLo := [some (.int (iI (-z))), some (.int (iI ix)), some (.ref 0), none, none, some (.int (iI pos)), some (.int (iI sg))]
def arW (N : Nat) (g : Nat → Int) : PW := [.inl (0, N, .inl (fun j => iI (g j)))]
theorem gc_end {d mc ms : Nat} {K : Option Value → PW → Prop} {KX : String → PW → Prop} {N : Nat} {v ix e z pos : Int} {g0 g : Nat → Int} {S : List Int} (hN : N ≤ 1000) (he : e ≤ N) (z0 : 0 ≤ z) (z9 : z < 100) (hW : TW g0 g e pos S) (hd : deL v = (if v < 0 then [45] else []) ++ tx z ++ S) (hp : ((deL v).length : Int) ≤ e)
    (h : ∀ g', TW g0 g' e (e - (deL v).length) (deL v) → K (some (.int (iI (e - (deL v).length)))) (arW N g')) : GO M_jInt_getChars d mc ms 22 (gcL z ix pos (if v < 0 then 1 else 0)) [] (arW N g) K KX := by
  have hl := congrArg List.length hd
  rw [List.length_append, List.length_append] at hl
  have h2 := hW.2.1
  have hdO := dO z0 z9
  have hdT := dT z0 z9
  by_cases e1 : z < 10
  · rw [tx_1 z0 e1] at hd hl
    have w1 := hW.cons (c := 48 + z % 10) (by simp only [List.length_singleton] at hl; omega) (by omega) (by omega)
    by_cases e2 : v < 0
    · rw [if_pos e2] at hd hl ⊢
      simp only [List.length_singleton] at hl
      have w2 := w1.cons (c := 45) (by omega) (by decide) (by decide)
      rw [show z % 10 = z by omega] at w2
      have w3 := h _ (by
        rw [hd]
        show TW g0 _ e (e - (([45] ++ [48 + z] ++ S).length : Int)) (45 :: (48 + z) :: S)
        rw [show e - ((([45] : List Int) ++ [48 + z] ++ S).length : Int) = pos - 1 - 1 by rw [List.length_append]; simp only [List.length_append, List.length_singleton]; omega]
        exact w2)
      rw [show e - ((deL v).length : Int) = pos - 1 - 1 by omega] at w3
      rw [show z % 10 = z by omega] at hdO
      unfold gcL
      refine run k_jInt_getChars [] 900 ?_
      (repeat ((conv => whnf); simp (disch := omega) only [Int.cast_ofNat_Int, Int.reduceToNat, iI_tt, Int.toNat_natCast, iI_add, iI_sub, iI_mul, iI_neg, lI_add, lI_sub, lI_mul, lI_neg, i2l_, l2i_, iI_lt, iI_le, iI_eq, lI_lt, lI_le, lI_eq, iI_lt0, iI_le0, iI_0lt, iI_0le, iI_eq0, iI_eq1, lI_lt0, lI_le0, lI_0lt, lI_0le, lI_eq0, ix_cl, ix_iff, upd_iI, updL_lI, lI_divF, lI_remF, iI_divF, iI_remF, em_eq, Int.not_lt, Int.not_le, true_implies, false_implies, and_true, true_and, not_true_eq_false, not_false_eq_true, true_or, or_true, or_false, false_or])); (conv => whnf)
      (repeat ((conv => whnf); simp (disch := omega) only [hdO, hdT, nar45, Int.neg_neg, Int.add_neg_eq_sub, Int.cast_ofNat_Int, Int.reduceToNat, iI_tt, Int.toNat_natCast, iI_add, iI_sub, iI_mul, iI_neg, lI_add, lI_sub, lI_mul, lI_neg, i2l_, l2i_, iI_lt, iI_le, iI_eq, lI_lt, lI_le, lI_eq, iI_lt0, iI_le0, iI_0lt, iI_0le, iI_eq0, iI_eq1, lI_lt0, lI_le0, lI_0lt, lI_0le, lI_eq0, ix_cl, ix_iff, upd_iI, updL_lI, lI_divF, lI_remF, iI_divF, iI_remF, em_eq, Int.not_lt, Int.not_le, true_implies, false_implies, and_true, true_and, not_true_eq_false, not_false_eq_true, true_or, or_true, or_false, false_or])); (conv => whnf)
      repeat' ((first | (refine ⟨fun _ => ?_, fun hb => absurd hb (by omega)⟩) | (refine ⟨fun hb => absurd hb (by omega), fun _ => ?_⟩) | (refine ⟨by omega, ?_⟩) | (refine ⟨⟨by omega, (by (conv => whnf); exact trivial)⟩, ?_⟩) | (refine ⟨(Nat.le_of_ble_eq_true rfl), bWp_ok _ (by (conv => whnf); exact trivial), ?_⟩) | (refine ⟨fun _ => ?_, fun _ => ?_⟩) | fail) <;> ((repeat ((conv => whnf); simp (disch := omega) only [hdO, hdT, nar45, Int.neg_neg, Int.add_neg_eq_sub, Int.cast_ofNat_Int, Int.reduceToNat, iI_tt, Int.toNat_natCast, iI_add, iI_sub, iI_mul, iI_neg, lI_add, lI_sub, lI_mul, lI_neg, i2l_, l2i_, iI_lt, iI_le, iI_eq, lI_lt, lI_le, lI_eq, iI_lt0, iI_le0, iI_0lt, iI_0le, iI_eq0, iI_eq1, lI_lt0, lI_le0, lI_0lt, lI_0le, lI_eq0, ix_cl, ix_iff, upd_iI, updL_lI, lI_divF, lI_remF, iI_divF, iI_remF, em_eq, Int.not_lt, Int.not_le, true_implies, false_implies, and_true, true_and, not_true_eq_false, not_false_eq_true, true_or, or_true, or_false, false_or])); (conv => whnf)))
      all_goals try (exfalso; omega)
      exact w3
    · rw [if_neg e2] at hd hl ⊢
      simp only [List.length_singleton, List.length_nil] at hl
      rw [show z % 10 = z by omega] at w1
      have w3 := h _ (by
        rw [hd]
        show TW g0 _ e (e - (([] ++ [48 + z] ++ S).length : Int)) ((48 + z) :: S)
        rw [show e - ((([] : List Int) ++ [48 + z] ++ S).length : Int) = pos - 1 by simp only [List.length_append, List.length_singleton, List.length_nil]; omega]
        exact w1)
      rw [show e - ((deL v).length : Int) = pos - 1 by omega] at w3
      rw [show z % 10 = z by omega] at hdO
      unfold gcL
      refine run k_jInt_getChars [] 900 ?_
      (repeat ((conv => whnf); simp (disch := omega) only [Int.cast_ofNat_Int, Int.reduceToNat, iI_tt, Int.toNat_natCast, iI_add, iI_sub, iI_mul, iI_neg, lI_add, lI_sub, lI_mul, lI_neg, i2l_, l2i_, iI_lt, iI_le, iI_eq, lI_lt, lI_le, lI_eq, iI_lt0, iI_le0, iI_0lt, iI_0le, iI_eq0, iI_eq1, lI_lt0, lI_le0, lI_0lt, lI_0le, lI_eq0, ix_cl, ix_iff, upd_iI, updL_lI, lI_divF, lI_remF, iI_divF, iI_remF, em_eq, Int.not_lt, Int.not_le, true_implies, false_implies, and_true, true_and, not_true_eq_false, not_false_eq_true, true_or, or_true, or_false, false_or])); (conv => whnf)
      (repeat ((conv => whnf); simp (disch := omega) only [hdO, hdT, nar45, Int.neg_neg, Int.add_neg_eq_sub, Int.cast_ofNat_Int, Int.reduceToNat, iI_tt, Int.toNat_natCast, iI_add, iI_sub, iI_mul, iI_neg, lI_add, lI_sub, lI_mul, lI_neg, i2l_, l2i_, iI_lt, iI_le, iI_eq, lI_lt, lI_le, lI_eq, iI_lt0, iI_le0, iI_0lt, iI_0le, iI_eq0, iI_eq1, lI_lt0, lI_le0, lI_0lt, lI_0le, lI_eq0, ix_cl, ix_iff, upd_iI, updL_lI, lI_divF, lI_remF, iI_divF, iI_remF, em_eq, Int.not_lt, Int.not_le, true_implies, false_implies, and_true, true_and, not_true_eq_false, not_false_eq_true, true_or, or_true, or_false, false_or])); (conv => whnf)
      repeat' ((first | (refine ⟨fun _ => ?_, fun hb => absurd hb (by omega)⟩) | (refine ⟨fun hb => absurd hb (by omega), fun _ => ?_⟩) | (refine ⟨by omega, ?_⟩) | (refine ⟨⟨by omega, (by (conv => whnf); exact trivial)⟩, ?_⟩) | (refine ⟨(Nat.le_of_ble_eq_true rfl), bWp_ok _ (by (conv => whnf); exact trivial), ?_⟩) | (refine ⟨fun _ => ?_, fun _ => ?_⟩) | fail) <;> ((repeat ((conv => whnf); simp (disch := omega) only [hdO, hdT, nar45, Int.neg_neg, Int.add_neg_eq_sub, Int.cast_ofNat_Int, Int.reduceToNat, iI_tt, Int.toNat_natCast, iI_add, iI_sub, iI_mul, iI_neg, lI_add, lI_sub, lI_mul, lI_neg, i2l_, l2i_, iI_lt, iI_le, iI_eq, lI_lt, lI_le, lI_eq, iI_lt0, iI_le0, iI_0lt, iI_0le, iI_eq0, iI_eq1, lI_lt0, lI_le0, lI_0lt, lI_0le, lI_eq0, ix_cl, ix_iff, upd_iI, updL_lI, lI_divF, lI_remF, iI_divF, iI_remF, em_eq, Int.not_lt, Int.not_le, true_implies, false_implies, and_true, true_and, not_true_eq_false, not_false_eq_true, true_or, or_true, or_false, false_or])); (conv => whnf)))
      all_goals try (exfalso; omega)
      exact w3
  · rw [tx_2 (by omega) z9] at hd hl
    have w1 := hW.cons (c := 48 + z % 10) (by simp only [List.length_cons, List.length_nil] at hl; omega) (by omega) (by omega)
    have w1 := w1.cons (c := 48 + z / 10) (by simp only [List.length_cons, List.length_nil] at hl; omega) (by omega) (by omega)
    by_cases e2 : v < 0
    · rw [if_pos e2] at hd hl ⊢
      simp only [List.length_cons, List.length_nil] at hl
      have w2 := w1.cons (c := 45) (by omega) (by decide) (by decide)
      have w3 := h _ (by
        rw [hd]
        show TW g0 _ e (e - (([45] ++ [48 + z / 10, 48 + z % 10] ++ S).length : Int)) (45 :: (48 + z / 10) :: (48 + z % 10) :: S)
        rw [show e - ((([45] : List Int) ++ [48 + z / 10, 48 + z % 10] ++ S).length : Int) = pos - 1 - 1 - 1 by simp only [List.length_append, List.length_cons, List.length_nil]; omega]
        exact w2)
      rw [show e - ((deL v).length : Int) = pos - 1 - 1 - 1 by omega] at w3
      unfold gcL
      refine run k_jInt_getChars [] 900 ?_
      (repeat ((conv => whnf); simp (disch := omega) only [Int.cast_ofNat_Int, Int.reduceToNat, iI_tt, Int.toNat_natCast, iI_add, iI_sub, iI_mul, iI_neg, lI_add, lI_sub, lI_mul, lI_neg, i2l_, l2i_, iI_lt, iI_le, iI_eq, lI_lt, lI_le, lI_eq, iI_lt0, iI_le0, iI_0lt, iI_0le, iI_eq0, iI_eq1, lI_lt0, lI_le0, lI_0lt, lI_0le, lI_eq0, ix_cl, ix_iff, upd_iI, updL_lI, lI_divF, lI_remF, iI_divF, iI_remF, em_eq, Int.not_lt, Int.not_le, true_implies, false_implies, and_true, true_and, not_true_eq_false, not_false_eq_true, true_or, or_true, or_false, false_or])); (conv => whnf)
      (repeat ((conv => whnf); simp (disch := omega) only [hdO, hdT, nar45, Int.neg_neg, Int.add_neg_eq_sub, Int.cast_ofNat_Int, Int.reduceToNat, iI_tt, Int.toNat_natCast, iI_add, iI_sub, iI_mul, iI_neg, lI_add, lI_sub, lI_mul, lI_neg, i2l_, l2i_, iI_lt, iI_le, iI_eq, lI_lt, lI_le, lI_eq, iI_lt0, iI_le0, iI_0lt, iI_0le, iI_eq0, iI_eq1, lI_lt0, lI_le0, lI_0lt, lI_0le, lI_eq0, ix_cl, ix_iff, upd_iI, updL_lI, lI_divF, lI_remF, iI_divF, iI_remF, em_eq, Int.not_lt, Int.not_le, true_implies, false_implies, and_true, true_and, not_true_eq_false, not_false_eq_true, true_or, or_true, or_false, false_or])); (conv => whnf)
      repeat' ((first | (refine ⟨fun _ => ?_, fun hb => absurd hb (by omega)⟩) | (refine ⟨fun hb => absurd hb (by omega), fun _ => ?_⟩) | (refine ⟨by omega, ?_⟩) | (refine ⟨⟨by omega, (by (conv => whnf); exact trivial)⟩, ?_⟩) | (refine ⟨(Nat.le_of_ble_eq_true rfl), bWp_ok _ (by (conv => whnf); exact trivial), ?_⟩) | (refine ⟨fun _ => ?_, fun _ => ?_⟩) | fail) <;> ((repeat ((conv => whnf); simp (disch := omega) only [hdO, hdT, nar45, Int.neg_neg, Int.add_neg_eq_sub, Int.cast_ofNat_Int, Int.reduceToNat, iI_tt, Int.toNat_natCast, iI_add, iI_sub, iI_mul, iI_neg, lI_add, lI_sub, lI_mul, lI_neg, i2l_, l2i_, iI_lt, iI_le, iI_eq, lI_lt, lI_le, lI_eq, iI_lt0, iI_le0, iI_0lt, iI_0le, iI_eq0, iI_eq1, lI_lt0, lI_le0, lI_0lt, lI_0le, lI_eq0, ix_cl, ix_iff, upd_iI, updL_lI, lI_divF, lI_remF, iI_divF, iI_remF, em_eq, Int.not_lt, Int.not_le, true_implies, false_implies, and_true, true_and, not_true_eq_false, not_false_eq_true, true_or, or_true, or_false, false_or])); (conv => whnf)))
      all_goals try (exfalso; omega)
      exact w3
    · rw [if_neg e2] at hd hl ⊢
      simp only [List.length_cons, List.length_nil] at hl
      have w3 := h _ (by
        rw [hd]
        show TW g0 _ e (e - (([] ++ [48 + z / 10, 48 + z % 10] ++ S).length : Int)) ((48 + z / 10) :: (48 + z % 10) :: S)
        rw [show e - ((([] : List Int) ++ [48 + z / 10, 48 + z % 10] ++ S).length : Int) = pos - 1 - 1 by simp only [List.length_append, List.length_cons, List.length_nil]; omega]
        exact w1)
      rw [show e - ((deL v).length : Int) = pos - 1 - 1 by omega] at w3
      unfold gcL
      refine run k_jInt_getChars [] 900 ?_
      (repeat ((conv => whnf); simp (disch := omega) only [Int.cast_ofNat_Int, Int.reduceToNat, iI_tt, Int.toNat_natCast, iI_add, iI_sub, iI_mul, iI_neg, lI_add, lI_sub, lI_mul, lI_neg, i2l_, l2i_, iI_lt, iI_le, iI_eq, lI_lt, lI_le, lI_eq, iI_lt0, iI_le0, iI_0lt, iI_0le, iI_eq0, iI_eq1, lI_lt0, lI_le0, lI_0lt, lI_0le, lI_eq0, ix_cl, ix_iff, upd_iI, updL_lI, lI_divF, lI_remF, iI_divF, iI_remF, em_eq, Int.not_lt, Int.not_le, true_implies, false_implies, and_true, true_and, not_true_eq_false, not_false_eq_true, true_or, or_true, or_false, false_or])); (conv => whnf)
      (repeat ((conv => whnf); simp (disch := omega) only [hdO, hdT, nar45, Int.neg_neg, Int.add_neg_eq_sub, Int.cast_ofNat_Int, Int.reduceToNat, iI_tt, Int.toNat_natCast, iI_add, iI_sub, iI_mul, iI_neg, lI_add, lI_sub, lI_mul, lI_neg, i2l_, l2i_, iI_lt, iI_le, iI_eq, lI_lt, lI_le, lI_eq, iI_lt0, iI_le0, iI_0lt, iI_0le, iI_eq0, iI_eq1, lI_lt0, lI_le0, lI_0lt, lI_0le, lI_eq0, ix_cl, ix_iff, upd_iI, updL_lI, lI_divF, lI_remF, iI_divF, iI_remF, em_eq, Int.not_lt, Int.not_le, true_implies, false_implies, and_true, true_and, not_true_eq_false, not_false_eq_true, true_or, or_true, or_false, false_or])); (conv => whnf)
      repeat' ((first | (refine ⟨fun _ => ?_, fun hb => absurd hb (by omega)⟩) | (refine ⟨fun hb => absurd hb (by omega), fun _ => ?_⟩) | (refine ⟨by omega, ?_⟩) | (refine ⟨⟨by omega, (by (conv => whnf); exact trivial)⟩, ?_⟩) | (refine ⟨(Nat.le_of_ble_eq_true rfl), bWp_ok _ (by (conv => whnf); exact trivial), ?_⟩) | (refine ⟨fun _ => ?_, fun _ => ?_⟩) | fail) <;> ((repeat ((conv => whnf); simp (disch := omega) only [hdO, hdT, nar45, Int.neg_neg, Int.add_neg_eq_sub, Int.cast_ofNat_Int, Int.reduceToNat, iI_tt, Int.toNat_natCast, iI_add, iI_sub, iI_mul, iI_neg, lI_add, lI_sub, lI_mul, lI_neg, i2l_, l2i_, iI_lt, iI_le, iI_eq, lI_lt, lI_le, lI_eq, iI_lt0, iI_le0, iI_0lt, iI_0le, iI_eq0, iI_eq1, lI_lt0, lI_le0, lI_0lt, lI_0le, lI_eq0, ix_cl, ix_iff, upd_iI, updL_lI, lI_divF, lI_remF, iI_divF, iI_remF, em_eq, Int.not_lt, Int.not_le, true_implies, false_implies, and_true, true_and, not_true_eq_false, not_false_eq_true, true_or, or_true, or_false, false_or])); (conv => whnf)))
      all_goals try (exfalso; omega)
      exact w3
theorem gc_weak {M : MM} {d mc ms : Nat} {pc : Nat} {w : PW} {K : Option Value → PW → Prop} {KX : String → PW → Prop} {a b c q r e f : Value} (h : GO M d mc ms pc [some a, some b, some c, none, none, some e, some f] [] w K KX) : GO M d mc ms pc [some a, some b, some c, some q, some r, some e, some f] [] w K KX := by
  refine GO.weaken (ls' := [some a, some b, some c, none, none, some e, some f]) (fun j v hj => ?_) h
  exact match j, hj with
  | 0, hj => hj
  | 1, hj => hj
  | 2, hj => hj
  | 3, hj => by simp at hj
  | 4, hj => by simp at hj
  | 5, hj => hj
  | 6, hj => hj
  | j + 7, hj => by simp at hj
theorem lp_gc {d mc ms : Nat} {K : Option Value → PW → Prop} {KX : String → PW → Prop} {N : Nat} {v ix e : Int} {g0 : Nat → Int} (hN : N ≤ 1000) (he : e ≤ N) (hp : ((deL v).length : Int) ≤ e)
    (h : ∀ g', TW g0 g' e (e - (deL v).length) (deL v) → K (some (.int (iI (e - (deL v).length)))) (arW N g')) : ∀ (q : Nat) (z pos : Int) (g : Nat → Int) (S : List Int), z ≤ q → 0 ≤ z → z ≤ 999999999 → TW g0 g e pos S → deL v = (if v < 0 then [45] else []) ++ tx z ++ S →
    GO M_jInt_getChars d mc ms 22 (gcL z ix pos (if v < 0 then 1 else 0)) [] (arW N g) K KX := by
  intro q
  induction q with
  | zero =>
    intro z pos g S hq z0 z9 hW hd
    exact gc_end hN he z0 (by omega) hW hd hp h
  | succ q ih =>
    intro z pos g S hq z0 z9 hW hd
    by_cases e1 : z < 100
    · exact gc_end hN he z0 e1 hW hd hp h
    · have h2 := hW.2.1
      have hl := congrArg List.length hd
      have hl9 := tx_len (z := z / 100)
      rw [tx_100 (by omega) (by omega)] at hd hl
      rw [List.length_append, List.length_append, List.length_append] at hl
      simp only [List.length_cons, List.length_nil] at hl
      have w1 := (hW.cons (c := 48 + z % 10) (by omega) (by omega) (by omega)).cons (c := 48 + z / 10 % 10) (by omega) (by omega) (by omega)
      have fin := ih (z / 100) _ _ _ (by omega) (by omega) (by omega) w1 (by rw [hd]; simp only [List.append_assoc, List.cons_append, List.nil_append])
      have hdO := dO (z := z % 100) (by omega) (by omega)
      have hdT := dT (z := z % 100) (by omega) (by omega)
      rw [show z % 100 % 10 = z % 10 by omega] at hdO
      rw [show z % 100 / 10 = z / 10 % 10 by omega] at hdT
      have hdv := iI_divN z0 (by omega)
      unfold gcL
      generalize (if v < 0 then (1 : Int) else 0) = sg at fin ⊢
      refine run k_jInt_getChars [41] 900 ?_
      (repeat ((conv => whnf); simp (disch := omega) only [Int.cast_ofNat_Int, Int.reduceToNat, iI_tt, Int.toNat_natCast, iI_add, iI_sub, iI_mul, iI_neg, lI_add, lI_sub, lI_mul, lI_neg, i2l_, l2i_, iI_lt, iI_le, iI_eq, lI_lt, lI_le, lI_eq, iI_lt0, iI_le0, iI_0lt, iI_0le, iI_eq0, iI_eq1, lI_lt0, lI_le0, lI_0lt, lI_0le, lI_eq0, ix_cl, ix_iff, upd_iI, updL_lI, lI_divF, lI_remF, iI_divF, iI_remF, em_eq, Int.not_lt, Int.not_le, true_implies, false_implies, and_true, true_and, not_true_eq_false, not_false_eq_true, true_or, or_true, or_false, false_or])); (conv => whnf)
      (repeat ((conv => whnf); simp (disch := omega) only [hdv, Int.cast_ofNat_Int, Int.reduceToNat, iI_tt, Int.toNat_natCast, iI_add, iI_sub, iI_mul, iI_neg, lI_add, lI_sub, lI_mul, lI_neg, i2l_, l2i_, iI_lt, iI_le, iI_eq, lI_lt, lI_le, lI_eq, iI_lt0, iI_le0, iI_0lt, iI_0le, iI_eq0, iI_eq1, lI_lt0, lI_le0, lI_0lt, lI_0le, lI_eq0, ix_cl, ix_iff, upd_iI, updL_lI, lI_divF, lI_remF, iI_divF, iI_remF, em_eq, Int.not_lt, Int.not_le, true_implies, false_implies, and_true, true_and, not_true_eq_false, not_false_eq_true, true_or, or_true, or_false, false_or])); (conv => whnf)
      repeat' ((first | (refine ⟨fun _ => ?_, fun hb => absurd hb (by omega)⟩) | (refine ⟨fun hb => absurd hb (by omega), fun _ => ?_⟩) | (refine ⟨by omega, ?_⟩) | (refine ⟨⟨by omega, (by (conv => whnf); exact trivial)⟩, ?_⟩) | (refine ⟨(Nat.le_of_ble_eq_true rfl), bWp_ok _ (by (conv => whnf); exact trivial), ?_⟩) | (refine ⟨fun _ => ?_, fun _ => ?_⟩) | fail) <;> ((repeat ((conv => whnf); simp (disch := omega) only [hdv, Int.cast_ofNat_Int, Int.reduceToNat, iI_tt, Int.toNat_natCast, iI_add, iI_sub, iI_mul, iI_neg, lI_add, lI_sub, lI_mul, lI_neg, i2l_, l2i_, iI_lt, iI_le, iI_eq, lI_lt, lI_le, lI_eq, iI_lt0, iI_le0, iI_0lt, iI_0le, iI_eq0, iI_eq1, lI_lt0, lI_le0, lI_0lt, lI_0le, lI_eq0, ix_cl, ix_iff, upd_iI, updL_lI, lI_divF, lI_remF, iI_divF, iI_remF, em_eq, Int.not_lt, Int.not_le, true_implies, false_implies, and_true, true_and, not_true_eq_false, not_false_eq_true, true_or, or_true, or_false, false_or])); (conv => whnf)))
      all_goals try (exfalso; omega)
      rw [show -(z / 100) * 100 - -z = z % 100 by omega]
      refine run k_jInt_getChars [22] 900 ?_
      (repeat ((conv => whnf); simp (disch := omega) only [Int.cast_ofNat_Int, Int.reduceToNat, iI_tt, Int.toNat_natCast, iI_add, iI_sub, iI_mul, iI_neg, lI_add, lI_sub, lI_mul, lI_neg, i2l_, l2i_, iI_lt, iI_le, iI_eq, lI_lt, lI_le, lI_eq, iI_lt0, iI_le0, iI_0lt, iI_0le, iI_eq0, iI_eq1, lI_lt0, lI_le0, lI_0lt, lI_0le, lI_eq0, ix_cl, ix_iff, upd_iI, updL_lI, lI_divF, lI_remF, iI_divF, iI_remF, em_eq, Int.not_lt, Int.not_le, true_implies, false_implies, and_true, true_and, not_true_eq_false, not_false_eq_true, true_or, or_true, or_false, false_or])); (conv => whnf)
      (repeat ((conv => whnf); simp (disch := omega) only [hdO, hdT, Int.add_neg_eq_sub, Int.cast_ofNat_Int, Int.reduceToNat, iI_tt, Int.toNat_natCast, iI_add, iI_sub, iI_mul, iI_neg, lI_add, lI_sub, lI_mul, lI_neg, i2l_, l2i_, iI_lt, iI_le, iI_eq, lI_lt, lI_le, lI_eq, iI_lt0, iI_le0, iI_0lt, iI_0le, iI_eq0, iI_eq1, lI_lt0, lI_le0, lI_0lt, lI_0le, lI_eq0, ix_cl, ix_iff, upd_iI, updL_lI, lI_divF, lI_remF, iI_divF, iI_remF, em_eq, Int.not_lt, Int.not_le, true_implies, false_implies, and_true, true_and, not_true_eq_false, not_false_eq_true, true_or, or_true, or_false, false_or])); (conv => whnf)
      repeat' ((first | (refine ⟨fun _ => ?_, fun hb => absurd hb (by omega)⟩) | (refine ⟨fun hb => absurd hb (by omega), fun _ => ?_⟩) | (refine ⟨by omega, ?_⟩) | (refine ⟨⟨by omega, (by (conv => whnf); exact trivial)⟩, ?_⟩) | (refine ⟨(Nat.le_of_ble_eq_true rfl), bWp_ok _ (by (conv => whnf); exact trivial), ?_⟩) | (refine ⟨fun _ => ?_, fun _ => ?_⟩) | fail) <;> ((repeat ((conv => whnf); simp (disch := omega) only [hdO, hdT, Int.add_neg_eq_sub, Int.cast_ofNat_Int, Int.reduceToNat, iI_tt, Int.toNat_natCast, iI_add, iI_sub, iI_mul, iI_neg, lI_add, lI_sub, lI_mul, lI_neg, i2l_, l2i_, iI_lt, iI_le, iI_eq, lI_lt, lI_le, lI_eq, iI_lt0, iI_le0, iI_0lt, iI_0le, iI_eq0, iI_eq1, lI_lt0, lI_le0, lI_0lt, lI_0le, lI_eq0, ix_cl, ix_iff, upd_iI, updL_lI, lI_divF, lI_remF, iI_divF, iI_remF, em_eq, Int.not_lt, Int.not_le, true_implies, false_implies, and_true, true_and, not_true_eq_false, not_false_eq_true, true_or, or_true, or_false, false_or])); (conv => whnf)))
      all_goals try (exfalso; omega)
      exact gc_weak fin
theorem c_jInt_getChars {d mc ms : Nat} {K : Option Value → PW → Prop} {KX : String → PW → Prop} {N : Nat} {v e : Int} {g : Nat → Int} (hN : N ≤ 1000) (hB : BB g) (hv : -999999999 ≤ v ∧ v ≤ 999999999) (he : e ≤ N) (hp : ((deL v).length : Int) ≤ e)
    (h : ∀ g', TW g g' e (e - (deL v).length) (deL v) → K (some (.int (iI (e - (deL v).length)))) (arW N g')) : WQ M_jInt_getChars d mc ms [.int (iI v), .int (iI e), .ref 0] (arW N g) K KX := by
  have fin := lp_gc (d := d) (mc := mc) (ms := ms) (KX := KX) (ix := e) hN he hp h (if v < 0 then -v else v).toNat (if v < 0 then -v else v) e g [] (by split <;> omega) (by split <;> omega) (by split <;> omega) (TW.nil hB (by omega)) (by rw [List.append_nil]; exact deL_tx)
  by_cases e1 : v < 0
  · rw [if_pos e1, if_pos e1, gcL, Int.neg_neg] at fin
    refine methC (by decide +kernel) (tz_jInt rfl) rfl ?_
    refine run k_jInt_getChars [22] 900 ?_
    (repeat ((conv => whnf); simp (disch := omega) only [Int.cast_ofNat_Int, Int.reduceToNat, iI_tt, Int.toNat_natCast, iI_add, iI_sub, iI_mul, iI_neg, lI_add, lI_sub, lI_mul, lI_neg, i2l_, l2i_, iI_lt, iI_le, iI_eq, lI_lt, lI_le, lI_eq, iI_lt0, iI_le0, iI_0lt, iI_0le, iI_eq0, iI_eq1, lI_lt0, lI_le0, lI_0lt, lI_0le, lI_eq0, ix_cl, ix_iff, upd_iI, updL_lI, lI_divF, lI_remF, iI_divF, iI_remF, em_eq, Int.not_lt, Int.not_le, true_implies, false_implies, and_true, true_and, not_true_eq_false, not_false_eq_true, true_or, or_true, or_false, false_or])); (conv => whnf)
    (repeat ((conv => whnf); simp (disch := omega) only [Int.cast_ofNat_Int, Int.reduceToNat, iI_tt, Int.toNat_natCast, iI_add, iI_sub, iI_mul, iI_neg, lI_add, lI_sub, lI_mul, lI_neg, i2l_, l2i_, iI_lt, iI_le, iI_eq, lI_lt, lI_le, lI_eq, iI_lt0, iI_le0, iI_0lt, iI_0le, iI_eq0, iI_eq1, lI_lt0, lI_le0, lI_0lt, lI_0le, lI_eq0, ix_cl, ix_iff, upd_iI, updL_lI, lI_divF, lI_remF, iI_divF, iI_remF, em_eq, Int.not_lt, Int.not_le, true_implies, false_implies, and_true, true_and, not_true_eq_false, not_false_eq_true, true_or, or_true, or_false, false_or])); (conv => whnf)
    repeat' ((first | (refine ⟨fun _ => ?_, fun hb => absurd hb (by omega)⟩) | (refine ⟨fun hb => absurd hb (by omega), fun _ => ?_⟩) | (refine ⟨by omega, ?_⟩) | (refine ⟨⟨by omega, (by (conv => whnf); exact trivial)⟩, ?_⟩) | (refine ⟨(Nat.le_of_ble_eq_true rfl), bWp_ok _ (by (conv => whnf); exact trivial), ?_⟩) | (refine ⟨fun _ => ?_, fun _ => ?_⟩) | fail) <;> ((repeat ((conv => whnf); simp (disch := omega) only [Int.cast_ofNat_Int, Int.reduceToNat, iI_tt, Int.toNat_natCast, iI_add, iI_sub, iI_mul, iI_neg, lI_add, lI_sub, lI_mul, lI_neg, i2l_, l2i_, iI_lt, iI_le, iI_eq, lI_lt, lI_le, lI_eq, iI_lt0, iI_le0, iI_0lt, iI_0le, iI_eq0, iI_eq1, lI_lt0, lI_le0, lI_0lt, lI_0le, lI_eq0, ix_cl, ix_iff, upd_iI, updL_lI, lI_divF, lI_remF, iI_divF, iI_remF, em_eq, Int.not_lt, Int.not_le, true_implies, false_implies, and_true, true_and, not_true_eq_false, not_false_eq_true, true_or, or_true, or_false, false_or])); (conv => whnf)))
    all_goals first | exact fin | (exfalso; omega)
  · rw [if_neg e1, if_neg e1, gcL] at fin
    refine methC (by decide +kernel) (tz_jInt rfl) rfl ?_
    refine run k_jInt_getChars [22] 900 ?_
    (repeat ((conv => whnf); simp (disch := omega) only [Int.cast_ofNat_Int, Int.reduceToNat, iI_tt, Int.toNat_natCast, iI_add, iI_sub, iI_mul, iI_neg, lI_add, lI_sub, lI_mul, lI_neg, i2l_, l2i_, iI_lt, iI_le, iI_eq, lI_lt, lI_le, lI_eq, iI_lt0, iI_le0, iI_0lt, iI_0le, iI_eq0, iI_eq1, lI_lt0, lI_le0, lI_0lt, lI_0le, lI_eq0, ix_cl, ix_iff, upd_iI, updL_lI, lI_divF, lI_remF, iI_divF, iI_remF, em_eq, Int.not_lt, Int.not_le, true_implies, false_implies, and_true, true_and, not_true_eq_false, not_false_eq_true, true_or, or_true, or_false, false_or])); (conv => whnf)
    (repeat ((conv => whnf); simp (disch := omega) only [Int.cast_ofNat_Int, Int.reduceToNat, iI_tt, Int.toNat_natCast, iI_add, iI_sub, iI_mul, iI_neg, lI_add, lI_sub, lI_mul, lI_neg, i2l_, l2i_, iI_lt, iI_le, iI_eq, lI_lt, lI_le, lI_eq, iI_lt0, iI_le0, iI_0lt, iI_0le, iI_eq0, iI_eq1, lI_lt0, lI_le0, lI_0lt, lI_0le, lI_eq0, ix_cl, ix_iff, upd_iI, updL_lI, lI_divF, lI_remF, iI_divF, iI_remF, em_eq, Int.not_lt, Int.not_le, true_implies, false_implies, and_true, true_and, not_true_eq_false, not_false_eq_true, true_or, or_true, or_false, false_or])); (conv => whnf)
    repeat' ((first | (refine ⟨fun _ => ?_, fun hb => absurd hb (by omega)⟩) | (refine ⟨fun hb => absurd hb (by omega), fun _ => ?_⟩) | (refine ⟨by omega, ?_⟩) | (refine ⟨⟨by omega, (by (conv => whnf); exact trivial)⟩, ?_⟩) | (refine ⟨(Nat.le_of_ble_eq_true rfl), bWp_ok _ (by (conv => whnf); exact trivial), ?_⟩) | (refine ⟨fun _ => ?_, fun _ => ?_⟩) | fail) <;> ((repeat ((conv => whnf); simp (disch := omega) only [Int.cast_ofNat_Int, Int.reduceToNat, iI_tt, Int.toNat_natCast, iI_add, iI_sub, iI_mul, iI_neg, lI_add, lI_sub, lI_mul, lI_neg, i2l_, l2i_, iI_lt, iI_le, iI_eq, lI_lt, lI_le, lI_eq, iI_lt0, iI_le0, iI_0lt, iI_0le, iI_eq0, iI_eq1, lI_lt0, lI_le0, lI_0lt, lI_0le, lI_eq0, ix_cl, ix_iff, upd_iI, updL_lI, lI_divF, lI_remF, iI_divF, iI_remF, em_eq, Int.not_lt, Int.not_le, true_implies, false_implies, and_true, true_and, not_true_eq_false, not_false_eq_true, true_or, or_true, or_false, false_or])); (conv => whnf)))
    all_goals first | exact fin | (exfalso; omega)
