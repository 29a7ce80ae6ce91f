/-! THE CLASS: steps of a program -/
theorem SB.b {wh x : Int} {σ : List Int} (h : SB wh σ) (hx : x ∈ σ) (hw : 1 ≤ wh ∧ wh ≤ 1000000000) : -1000000000 ≤ x ∧ x ≤ 1000000000 := by
  have h1 := nin_b (x := x) (w := wh) (by omega)
  rw [h x hx] at h1
  omega
theorem rsF_b {st rg wh o a b : Int} : 0 ≤ rsF st rg wh o a b ∧ rsF st rg wh o a b ≤ 2 := by
  unfold rsF
  (repeat' split) <;> omega
theorem c_Pg_doOperation {d mc ms : Nat} {ki fi sc pd : Nat → Int} {zs ht : Int} {n ck st wh rg : Int} {md wt num acc : Nat → Int} {K : Option Value → PW → Prop} {KX : String → PW → Prop} {o x y : Int} {τ : List Int} (hB : MB n ck wh rg md wt num) (hs : 0 ≤ st ∧ st ≤ 1) (o0 : 0 ≤ o) (o4 : o ≤ 4) (hS : STp (y :: x :: τ) pd) (h32 : τ.length + 2 ≤ 32) (hb : SB wh (y :: x :: τ)) (hht : ht = (τ.length : Int) + 2)
    (f9 : ¬ rsF st rg wh o x y = 0 → K (some (.int (iI (rsF st rg wh o x y)))) ((pgW ki fi sc pd zs (τ.length)) ++ mlC 5 n ck st wh rg md wt num (bk acc (rsF st rg wh o x y).toNat)))
    (t9 : rsF st rg wh o x y = 0 → K (some (.int (iI 0))) ((pgW ki fi sc (upI pd τ.length (nin (exF o x y) wh)) zs ((τ.length : Int) + 1)) ++ mlC 5 n ck st wh rg md wt num acc)) : WQ M_Pg_doOperation (d + 4) mc ms [.ref 0, .ref 5, .int (iI o)] ((pgW ki fi sc pd zs ht) ++ mlC 5 n ck st wh rg md wt num acc) K KX := by
  subst hht
  have hw := hB.1
  have hy := hb.b (x := y) (by simp) ⟨hw.2.2.2.2.1, hw.2.2.2.2.2.1⟩
  have hx := hb.b (x := x) (by simp) ⟨hw.2.2.2.2.1, hw.2.2.2.2.2.1⟩
  obtain ⟨hS1, hS2, hS3⟩ := hS
  rw [List.length_cons] at hS1
  have hr := rsF_b (st := st) (rg := rg) (wh := wh) (o := o) (a := x) (b := y)
  have he := exF_b (op := o) hx hy
  refine methC (pf_Pg rfl) (tz_Pg rfl) rfl ?_
  refine run k_Pg_doOperation [] 900 ?_
  (repeat ((conv => whnf); simp (disch := omega) only [Int.cast_ofNat_Int, Int.reduceToNat, iI_tt, Int.toNat_natCast, iI_add, iI_sub, iI_mul, iI_neg, lI_add, lI_sub, lI_mul, lI_neg, i2l_, l2i_, iI_lt, iI_le, iI_eq, lI_lt, lI_le, lI_eq, iI_lt0, iI_le0, iI_0lt, iI_0le, iI_eq0, iI_eq1, lI_lt0, lI_le0, lI_0lt, lI_0le, lI_eq0, ix_cl, ix_iff, upd_iI, updL_lI, lI_divF, lI_remF, iI_divF, iI_remF, em_eq, Int.not_lt, Int.not_le, true_implies, false_implies, and_true, true_and, not_true_eq_false, not_false_eq_true, true_or, or_true, or_false, false_or])); (conv => whnf)
  refine WQ_fr [0, 1, 2, 3, 4] ((pgW ki fi sc pd zs ((τ.length : Int) + 2))) [.ref 0] rfl rfl rfl rfl ?_
  refine c_Pg_pop (by omega) (by omega) ?_
  (repeat ((conv => whnf); simp (disch := omega) only [Int.cast_ofNat_Int, Int.reduceToNat, iI_tt, Int.toNat_natCast, iI_add, iI_sub, iI_mul, iI_neg, lI_add, lI_sub, lI_mul, lI_neg, i2l_, l2i_, iI_lt, iI_le, iI_eq, lI_lt, lI_le, lI_eq, iI_lt0, iI_le0, iI_0lt, iI_0le, iI_eq0, iI_eq1, lI_lt0, lI_le0, lI_0lt, lI_0le, lI_eq0, ix_cl, ix_iff, upd_iI, updL_lI, lI_divF, lI_remF, iI_divF, iI_remF, em_eq, Int.not_lt, Int.not_le, true_implies, false_implies, and_true, true_and, not_true_eq_false, not_false_eq_true, true_or, or_true, or_false, false_or])); (conv => whnf)
  rw [show ((τ.length : Int) + 2 - 1).toNat = τ.length + 1 by omega, hS1, show (τ.length : Int) + 2 - 1 = (τ.length : Int) + 1 by omega]
  refine WQ_fr [0, 1, 2, 3, 4] ((pgW ki fi sc pd zs ((τ.length : Int) + 1))) [.ref 0] rfl rfl rfl rfl ?_
  refine c_Pg_pop (by omega) (by omega) ?_
  (repeat ((conv => whnf); simp (disch := omega) only [Int.cast_ofNat_Int, Int.reduceToNat, iI_tt, Int.toNat_natCast, iI_add, iI_sub, iI_mul, iI_neg, lI_add, lI_sub, lI_mul, lI_neg, i2l_, l2i_, iI_lt, iI_le, iI_eq, lI_lt, lI_le, lI_eq, iI_lt0, iI_le0, iI_0lt, iI_0le, iI_eq0, iI_eq1, lI_lt0, lI_le0, lI_0lt, lI_0le, lI_eq0, ix_cl, ix_iff, upd_iI, updL_lI, lI_divF, lI_remF, iI_divF, iI_remF, em_eq, Int.not_lt, Int.not_le, true_implies, false_implies, and_true, true_and, not_true_eq_false, not_false_eq_true, true_or, or_true, or_false, false_or])); (conv => whnf)
  rw [show ((τ.length : Int) + 1 - 1).toNat = τ.length by omega, hS2, show (τ.length : Int) + 1 - 1 = (τ.length : Int) by omega]
  refine WQ_fr [5, 6, 7, 8, 9, 10] (mlW n ck st wh rg md wt num acc) [.ref 0, .int (iI o), .long (lI x), .long (lI y)] rfl rfl rfl rfl ?_
  refine c_Ml_reasonOf hB hs o0 o4 hx hy ?_
  (repeat ((conv => whnf); simp (disch := omega) only [Int.cast_ofNat_Int, Int.reduceToNat, iI_tt, Int.toNat_natCast, iI_add, iI_sub, iI_mul, iI_neg, lI_add, lI_sub, lI_mul, lI_neg, i2l_, l2i_, iI_lt, iI_le, iI_eq, lI_lt, lI_le, lI_eq, iI_lt0, iI_le0, iI_0lt, iI_0le, iI_eq0, iI_eq1, lI_lt0, lI_le0, lI_0lt, lI_0le, lI_eq0, ix_cl, ix_iff, upd_iI, updL_lI, lI_divF, lI_remF, iI_divF, iI_remF, em_eq, Int.not_lt, Int.not_le, true_implies, false_implies, and_true, true_and, not_true_eq_false, not_false_eq_true, true_or, or_true, or_false, false_or])); (conv => whnf)
  by_cases e : rsF st rg wh o x y = 0
  · have t9 := t9 e
    rw [e]
    (repeat ((conv => whnf); simp (disch := omega) only [Int.cast_ofNat_Int, Int.reduceToNat, iI_tt, Int.toNat_natCast, iI_add, iI_sub, iI_mul, iI_neg, lI_add, lI_sub, lI_mul, lI_neg, i2l_, l2i_, iI_lt, iI_le, iI_eq, lI_lt, lI_le, lI_eq, iI_lt0, iI_le0, iI_0lt, iI_0le, iI_eq0, iI_eq1, lI_lt0, lI_le0, lI_0lt, lI_0le, lI_eq0, ix_cl, ix_iff, upd_iI, updL_lI, lI_divF, lI_remF, iI_divF, iI_remF, em_eq, Int.not_lt, Int.not_le, true_implies, false_implies, and_true, true_and, not_true_eq_false, not_false_eq_true, true_or, or_true, or_false, false_or])); (conv => whnf)
    repeat' ((first | (refine ⟨fun _ => ?_, fun hb => absurd hb (by omega)⟩) | (refine ⟨fun hb => absurd hb (by omega), fun _ => ?_⟩) | (refine ⟨by omega, ?_⟩) | (refine ⟨⟨by omega, (by (conv => whnf); exact trivial)⟩, ?_⟩) | (refine ⟨(Nat.le_of_ble_eq_true rfl), bWp_ok _ (by (conv => whnf); exact trivial), ?_⟩) | (refine ⟨fun _ => ?_, fun _ => ?_⟩) | fail) <;> ((repeat ((conv => whnf); simp (disch := omega) only [Int.cast_ofNat_Int, Int.reduceToNat, iI_tt, Int.toNat_natCast, iI_add, iI_sub, iI_mul, iI_neg, lI_add, lI_sub, lI_mul, lI_neg, i2l_, l2i_, iI_lt, iI_le, iI_eq, lI_lt, lI_le, lI_eq, iI_lt0, iI_le0, iI_0lt, iI_0le, iI_eq0, iI_eq1, lI_lt0, lI_le0, lI_0lt, lI_0le, lI_eq0, ix_cl, ix_iff, upd_iI, updL_lI, lI_divF, lI_remF, iI_divF, iI_remF, em_eq, Int.not_lt, Int.not_le, true_implies, false_implies, and_true, true_and, not_true_eq_false, not_false_eq_true, true_or, or_true, or_false, false_or])); (conv => whnf)))
    refine c_R_exactOf o0 o4 ⟨by omega, by omega⟩ ⟨by omega, by omega⟩ ?_
    (repeat ((conv => whnf); simp (disch := omega) only [Int.cast_ofNat_Int, Int.reduceToNat, iI_tt, Int.toNat_natCast, iI_add, iI_sub, iI_mul, iI_neg, lI_add, lI_sub, lI_mul, lI_neg, i2l_, l2i_, iI_lt, iI_le, iI_eq, lI_lt, lI_le, lI_eq, iI_lt0, iI_le0, iI_0lt, iI_0le, iI_eq0, iI_eq1, lI_lt0, lI_le0, lI_0lt, lI_0le, lI_eq0, ix_cl, ix_iff, upd_iI, updL_lI, lI_divF, lI_remF, iI_divF, iI_remF, em_eq, Int.not_lt, Int.not_le, true_implies, false_implies, and_true, true_and, not_true_eq_false, not_false_eq_true, true_or, or_true, or_false, false_or])); (conv => whnf)
    refine c_R_numberIn ⟨by omega, by omega⟩ (by omega) ⟨by omega, by omega⟩ ?_
    (repeat ((conv => whnf); simp (disch := omega) only [Int.cast_ofNat_Int, Int.reduceToNat, iI_tt, Int.toNat_natCast, iI_add, iI_sub, iI_mul, iI_neg, lI_add, lI_sub, lI_mul, lI_neg, i2l_, l2i_, iI_lt, iI_le, iI_eq, lI_lt, lI_le, lI_eq, iI_lt0, iI_le0, iI_0lt, iI_0le, iI_eq0, iI_eq1, lI_lt0, lI_le0, lI_0lt, lI_0le, lI_eq0, ix_cl, ix_iff, upd_iI, updL_lI, lI_divF, lI_remF, iI_divF, iI_remF, em_eq, Int.not_lt, Int.not_le, true_implies, false_implies, and_true, true_and, not_true_eq_false, not_false_eq_true, true_or, or_true, or_false, false_or])); (conv => whnf)
    refine WQ_fr [0, 1, 2, 3, 4] ((pgW ki fi sc pd zs ((τ.length : Int)))) [.ref 0, .long (lI (nin (exF o x y) wh))] rfl rfl rfl rfl ?_
    refine c_Pg_push (by omega) (by omega) ?_
    (repeat ((conv => whnf); simp (disch := omega) only [Int.cast_ofNat_Int, Int.reduceToNat, iI_tt, Int.toNat_natCast, iI_add, iI_sub, iI_mul, iI_neg, lI_add, lI_sub, lI_mul, lI_neg, i2l_, l2i_, iI_lt, iI_le, iI_eq, lI_lt, lI_le, lI_eq, iI_lt0, iI_le0, iI_0lt, iI_0le, iI_eq0, iI_eq1, lI_lt0, lI_le0, lI_0lt, lI_0le, lI_eq0, ix_cl, ix_iff, upd_iI, updL_lI, lI_divF, lI_remF, iI_divF, iI_remF, em_eq, Int.not_lt, Int.not_le, true_implies, false_implies, and_true, true_and, not_true_eq_false, not_false_eq_true, true_or, or_true, or_false, false_or])); (conv => whnf)
    exact t9
  · have f9 := f9 e
    (repeat ((conv => whnf); simp (disch := omega) only [Int.cast_ofNat_Int, Int.reduceToNat, iI_tt, Int.toNat_natCast, iI_add, iI_sub, iI_mul, iI_neg, lI_add, lI_sub, lI_mul, lI_neg, i2l_, l2i_, iI_lt, iI_le, iI_eq, lI_lt, lI_le, lI_eq, iI_lt0, iI_le0, iI_0lt, iI_0le, iI_eq0, iI_eq1, lI_lt0, lI_le0, lI_0lt, lI_0le, lI_eq0, ix_cl, ix_iff, upd_iI, updL_lI, lI_divF, lI_remF, iI_divF, iI_remF, em_eq, Int.not_lt, Int.not_le, true_implies, false_implies, and_true, true_and, not_true_eq_false, not_false_eq_true, true_or, or_true, or_false, false_or])); (conv => whnf)
    repeat' ((first | (refine ⟨fun _ => ?_, fun hb => absurd hb (by omega)⟩) | (refine ⟨fun hb => absurd hb (by omega), fun _ => ?_⟩) | (refine ⟨by omega, ?_⟩) | (refine ⟨⟨by omega, (by (conv => whnf); exact trivial)⟩, ?_⟩) | (refine ⟨(Nat.le_of_ble_eq_true rfl), bWp_ok _ (by (conv => whnf); exact trivial), ?_⟩) | (refine ⟨fun _ => ?_, fun _ => ?_⟩) | fail) <;> ((repeat ((conv => whnf); simp (disch := omega) only [Int.cast_ofNat_Int, Int.reduceToNat, iI_tt, Int.toNat_natCast, iI_add, iI_sub, iI_mul, iI_neg, lI_add, lI_sub, lI_mul, lI_neg, i2l_, l2i_, iI_lt, iI_le, iI_eq, lI_lt, lI_le, lI_eq, iI_lt0, iI_le0, iI_0lt, iI_0le, iI_eq0, iI_eq1, lI_lt0, lI_le0, lI_0lt, lI_0le, lI_eq0, ix_cl, ix_iff, upd_iI, updL_lI, lI_divF, lI_remF, iI_divF, iI_remF, em_eq, Int.not_lt, Int.not_le, true_implies, false_implies, and_true, true_and, not_true_eq_false, not_false_eq_true, true_or, or_true, or_false, false_or])); (conv => whnf)))
    all_goals try (exfalso; omega)
    refine WQ_fr [5, 6, 7, 8, 9, 10] (mlW n ck st wh rg md wt num acc) [.ref 0, .int (iI (rsF st rg wh o x y))] rfl rfl rfl rfl ?_
    refine c_Ml_refuse (by omega) (by omega) ?_
    (repeat ((conv => whnf); simp (disch := omega) only [Int.cast_ofNat_Int, Int.reduceToNat, iI_tt, Int.toNat_natCast, iI_add, iI_sub, iI_mul, iI_neg, lI_add, lI_sub, lI_mul, lI_neg, i2l_, l2i_, iI_lt, iI_le, iI_eq, lI_lt, lI_le, lI_eq, iI_lt0, iI_le0, iI_0lt, iI_0le, iI_eq0, iI_eq1, lI_lt0, lI_le0, lI_0lt, lI_0le, lI_eq0, ix_cl, ix_iff, upd_iI, updL_lI, lI_divF, lI_remF, iI_divF, iI_remF, em_eq, Int.not_lt, Int.not_le, true_implies, false_implies, and_true, true_and, not_true_eq_false, not_false_eq_true, true_or, or_true, or_false, false_or])); (conv => whnf)
    exact f9
theorem c_Pg_doStepE {d mc ms : Nat} {ki fi sc pd : Nat → Int} {zs ht : Int} {n ck st wh rg : Int} {md wt num acc : Nat → Int} {K : Option Value → PW → Prop} {KX : String → PW → Prop} {x : Int × Int × Int} {σ : List Int} {R : Sum Int (List Int)} (hB : MB n ck wh rg md wt num) (hs : 0 ≤ st ∧ st ≤ 1) (hS : STp σ pd) (h32 : σ.length ≤ 32) (hb : SB wh σ) (hht : ht = (σ.length : Int)) (hR : stpC st rg wh num x σ = some R)
    (f9 : ∀ w, R = .inl w → ¬ w = 0 → (0 ≤ w ∧ w ≤ 2) → ∀ ht', K (some (.int (iI w))) ((pgW ki fi sc pd zs (ht')) ++ mlC 5 n ck st wh rg md wt num (bk acc w.toNat)))
    (t9 : ∀ τ, R = .inr τ → x.1 ≤ 2 → 0 ≤ x.1 → ∀ pd', STp τ pd' → τ.length ≤ 32 → SB wh τ → K (some (.int (iI 0))) ((pgW ki fi sc (pd') zs (τ.length)) ++ mlC 5 n ck st wh rg md wt num acc)) : WQ M_Pg_doStep (d + 5) mc ms [.ref 0, .ref 5, .int (iI x.1), .int (iI x.2.1), .int (iI x.2.2)] ((pgW ki fi sc pd zs ht) ++ mlC 5 n ck st wh rg md wt num acc) K KX := by
  subst hht
  obtain ⟨x0, x1, x2⟩ := x
  unfold stpC at hR
  simp only at hR t9 ⊢
  by_cases e0 : x0 = 0
  · subst e0
    rw [if_pos rfl] at hR
    unfold pushS at hR
    split at hR
    · next hc =>
      cases hR
      have fin := t9 _ rfl (by decide) (by decide) _ hS.push (by rw [List.length_cons]; omega) (hb.cons hc.2)
      rw [List.length_cons] at fin
      have hw := hB.1
      have hx1 := nin_b (x := x1) (w := wh) (by omega)
      rw [hc.2] at hx1
      refine methC (pf_Pg rfl) (tz_Pg rfl) rfl ?_
      refine run k_Pg_doStep [] 900 ?_
      (repeat ((conv => whnf); simp (disch := omega) only [Int.cast_ofNat_Int, Int.reduceToNat, iI_tt, Int.toNat_natCast, iI_add, iI_sub, iI_mul, iI_neg, lI_add, lI_sub, lI_mul, lI_neg, i2l_, l2i_, iI_lt, iI_le, iI_eq, lI_lt, lI_le, lI_eq, iI_lt0, iI_le0, iI_0lt, iI_0le, iI_eq0, iI_eq1, lI_lt0, lI_le0, lI_0lt, lI_0le, lI_eq0, ix_cl, ix_iff, upd_iI, updL_lI, lI_divF, lI_remF, iI_divF, iI_remF, em_eq, Int.not_lt, Int.not_le, true_implies, false_implies, and_true, true_and, not_true_eq_false, not_false_eq_true, true_or, or_true, or_false, false_or])); (conv => whnf)
      refine ⟨swK_cons (fun _ => ?_) (swK_cons (fun _ => ?_) (swK_cons (fun _ => ?_) (swK_cons (fun _ => ?_) (swK_cons (fun _ => ?_) (swK_cons (fun _ => ?_) (swK_cons (fun _ => ?_) (swK_nil))))))), fun hs => ?_⟩ <;> (try simp only [List.length_cons, List.length_nil] at hs) <;> first | (exfalso; omega) | ((repeat ((conv => whnf); simp (disch := omega) only [Int.cast_ofNat_Int, Int.reduceToNat, iI_tt, Int.toNat_natCast, iI_add, iI_sub, iI_mul, iI_neg, lI_add, lI_sub, lI_mul, lI_neg, i2l_, l2i_, iI_lt, iI_le, iI_eq, lI_lt, lI_le, lI_eq, iI_lt0, iI_le0, iI_0lt, iI_0le, iI_eq0, iI_eq1, lI_lt0, lI_le0, lI_0lt, lI_0le, lI_eq0, ix_cl, ix_iff, upd_iI, updL_lI, lI_divF, lI_remF, iI_divF, iI_remF, em_eq, Int.not_lt, Int.not_le, true_implies, false_implies, and_true, true_and, not_true_eq_false, not_false_eq_true, true_or, or_true, or_false, false_or])); (conv => whnf))
      refine WQ_fr [0, 1, 2, 3, 4] ((pgW ki fi sc pd zs ((σ.length : Int)))) [.ref 0, .long (lI x1)] rfl rfl rfl rfl ?_
      refine c_Pg_push (by omega) (by omega) ?_
      (repeat ((conv => whnf); simp (disch := omega) only [Int.cast_ofNat_Int, Int.reduceToNat, iI_tt, Int.toNat_natCast, iI_add, iI_sub, iI_mul, iI_neg, lI_add, lI_sub, lI_mul, lI_neg, i2l_, l2i_, iI_lt, iI_le, iI_eq, lI_lt, lI_le, lI_eq, iI_lt0, iI_le0, iI_0lt, iI_0le, iI_eq0, iI_eq1, lI_lt0, lI_le0, lI_0lt, lI_0le, lI_eq0, ix_cl, ix_iff, upd_iI, updL_lI, lI_divF, lI_remF, iI_divF, iI_remF, em_eq, Int.not_lt, Int.not_le, true_implies, false_implies, and_true, true_and, not_true_eq_false, not_false_eq_true, true_or, or_true, or_false, false_or])); (conv => whnf)
      exact fin
    · cases hR
  · rw [if_neg e0] at hR
    by_cases e1 : x0 = 1 ∧ 0 ≤ x1 ∧ x1 < 8
    · rw [if_pos e1] at hR
      obtain ⟨rfl, r0, r8⟩ := e1
      unfold pushS at hR
      split at hR
      · next hc =>
        cases hR
        have fin := t9 _ rfl (by decide) (by decide) _ hS.push (by rw [List.length_cons]; omega) (hb.cons hc.2)
        rw [List.length_cons] at fin
        refine methC (pf_Pg rfl) (tz_Pg rfl) rfl ?_
        refine run k_Pg_doStep [] 900 ?_
        (repeat ((conv => whnf); simp (disch := omega) only [Int.cast_ofNat_Int, Int.reduceToNat, iI_tt, Int.toNat_natCast, iI_add, iI_sub, iI_mul, iI_neg, lI_add, lI_sub, lI_mul, lI_neg, i2l_, l2i_, iI_lt, iI_le, iI_eq, lI_lt, lI_le, lI_eq, iI_lt0, iI_le0, iI_0lt, iI_0le, iI_eq0, iI_eq1, lI_lt0, lI_le0, lI_0lt, lI_0le, lI_eq0, ix_cl, ix_iff, upd_iI, updL_lI, lI_divF, lI_remF, iI_divF, iI_remF, em_eq, Int.not_lt, Int.not_le, true_implies, false_implies, and_true, true_and, not_true_eq_false, not_false_eq_true, true_or, or_true, or_false, false_or])); (conv => whnf)
        refine ⟨swK_cons (fun _ => ?_) (swK_cons (fun _ => ?_) (swK_cons (fun _ => ?_) (swK_cons (fun _ => ?_) (swK_cons (fun _ => ?_) (swK_cons (fun _ => ?_) (swK_cons (fun _ => ?_) (swK_nil))))))), fun hs => ?_⟩ <;> (try simp only [List.length_cons, List.length_nil] at hs) <;> first | (exfalso; omega) | ((repeat ((conv => whnf); simp (disch := omega) only [Int.cast_ofNat_Int, Int.reduceToNat, iI_tt, Int.toNat_natCast, iI_add, iI_sub, iI_mul, iI_neg, lI_add, lI_sub, lI_mul, lI_neg, i2l_, l2i_, iI_lt, iI_le, iI_eq, lI_lt, lI_le, lI_eq, iI_lt0, iI_le0, iI_0lt, iI_0le, iI_eq0, iI_eq1, lI_lt0, lI_le0, lI_0lt, lI_0le, lI_eq0, ix_cl, ix_iff, upd_iI, updL_lI, lI_divF, lI_remF, iI_divF, iI_remF, em_eq, Int.not_lt, Int.not_le, true_implies, false_implies, and_true, true_and, not_true_eq_false, not_false_eq_true, true_or, or_true, or_false, false_or])); (conv => whnf))
        refine WQ_fr [5, 6, 7, 8, 9, 10] (mlW n ck st wh rg md wt num acc) [.ref 0, .int (iI x1)] rfl rfl rfl rfl ?_
        refine c_Ml_numberAt r0 r8 ?_
        (repeat ((conv => whnf); simp (disch := omega) only [Int.cast_ofNat_Int, Int.reduceToNat, iI_tt, Int.toNat_natCast, iI_add, iI_sub, iI_mul, iI_neg, lI_add, lI_sub, lI_mul, lI_neg, i2l_, l2i_, iI_lt, iI_le, iI_eq, lI_lt, lI_le, lI_eq, iI_lt0, iI_le0, iI_0lt, iI_0le, iI_eq0, iI_eq1, lI_lt0, lI_le0, lI_0lt, lI_0le, lI_eq0, ix_cl, ix_iff, upd_iI, updL_lI, lI_divF, lI_remF, iI_divF, iI_remF, em_eq, Int.not_lt, Int.not_le, true_implies, false_implies, and_true, true_and, not_true_eq_false, not_false_eq_true, true_or, or_true, or_false, false_or])); (conv => whnf)
        refine WQ_fr [0, 1, 2, 3, 4] ((pgW ki fi sc pd zs ((σ.length : Int)))) [.ref 0, .long (lI (num x1.toNat))] rfl rfl rfl rfl ?_
        refine c_Pg_push (by omega) (by omega) ?_
        (repeat ((conv => whnf); simp (disch := omega) only [Int.cast_ofNat_Int, Int.reduceToNat, iI_tt, Int.toNat_natCast, iI_add, iI_sub, iI_mul, iI_neg, lI_add, lI_sub, lI_mul, lI_neg, i2l_, l2i_, iI_lt, iI_le, iI_eq, lI_lt, lI_le, lI_eq, iI_lt0, iI_le0, iI_0lt, iI_0le, iI_eq0, iI_eq1, lI_lt0, lI_le0, lI_0lt, lI_0le, lI_eq0, ix_cl, ix_iff, upd_iI, updL_lI, lI_divF, lI_remF, iI_divF, iI_remF, em_eq, Int.not_lt, Int.not_le, true_implies, false_implies, and_true, true_and, not_true_eq_false, not_false_eq_true, true_or, or_true, or_false, false_or])); (conv => whnf)
        exact fin
      · cases hR
    · rw [if_neg e1] at hR
      by_cases e2 : x0 = 2 ∧ 0 ≤ x1 ∧ x1 ≤ 4
      · rw [if_pos e2] at hR
        obtain ⟨rfl, o0, o4⟩ := e2
        rcases σ with _ | ⟨y, _ | ⟨x, τ⟩⟩
        · cases hR
        · cases hR
        · rw [List.length_cons, List.length_cons] at h32 ⊢
          have hht : ((τ.length + 1 + 1 : Nat) : Int) = (τ.length : Int) + 2 := by omega
          rw [calcS_c] at hR
          cases hR
          refine methC (pf_Pg rfl) (tz_Pg rfl) rfl ?_
          refine run k_Pg_doStep [] 900 ?_
          (repeat ((conv => whnf); simp (disch := omega) only [Int.cast_ofNat_Int, Int.reduceToNat, iI_tt, Int.toNat_natCast, iI_add, iI_sub, iI_mul, iI_neg, lI_add, lI_sub, lI_mul, lI_neg, i2l_, l2i_, iI_lt, iI_le, iI_eq, lI_lt, lI_le, lI_eq, iI_lt0, iI_le0, iI_0lt, iI_0le, iI_eq0, iI_eq1, lI_lt0, lI_le0, lI_0lt, lI_0le, lI_eq0, ix_cl, ix_iff, upd_iI, updL_lI, lI_divF, lI_remF, iI_divF, iI_remF, em_eq, Int.not_lt, Int.not_le, true_implies, false_implies, and_true, true_and, not_true_eq_false, not_false_eq_true, true_or, or_true, or_false, false_or])); (conv => whnf)
          refine ⟨swK_cons (fun _ => ?_) (swK_cons (fun _ => ?_) (swK_cons (fun _ => ?_) (swK_cons (fun _ => ?_) (swK_cons (fun _ => ?_) (swK_cons (fun _ => ?_) (swK_cons (fun _ => ?_) (swK_nil))))))), fun hs => ?_⟩ <;> (try simp only [List.length_cons, List.length_nil] at hs) <;> first | (exfalso; omega) | ((repeat ((conv => whnf); simp (disch := omega) only [Int.cast_ofNat_Int, Int.reduceToNat, iI_tt, Int.toNat_natCast, iI_add, iI_sub, iI_mul, iI_neg, lI_add, lI_sub, lI_mul, lI_neg, i2l_, l2i_, iI_lt, iI_le, iI_eq, lI_lt, lI_le, lI_eq, iI_lt0, iI_le0, iI_0lt, iI_0le, iI_eq0, iI_eq1, lI_lt0, lI_le0, lI_0lt, lI_0le, lI_eq0, ix_cl, ix_iff, upd_iI, updL_lI, lI_divF, lI_remF, iI_divF, iI_remF, em_eq, Int.not_lt, Int.not_le, true_implies, false_implies, and_true, true_and, not_true_eq_false, not_false_eq_true, true_or, or_true, or_false, false_or])); (conv => whnf))
          rw [hht]
          refine c_Pg_doOperation hB hs o0 o4 hS (by omega) hb rfl (fun h => ?_) (fun h => ?_)
          · have fin := f9 (rsF st rg wh x1 x y) (by unfold cvS; rw [if_neg h]; rfl) h rsF_b τ.length
            (repeat ((conv => whnf); simp (disch := omega) only [Int.cast_ofNat_Int, Int.reduceToNat, iI_tt, Int.toNat_natCast, iI_add, iI_sub, iI_mul, iI_neg, lI_add, lI_sub, lI_mul, lI_neg, i2l_, l2i_, iI_lt, iI_le, iI_eq, lI_lt, lI_le, lI_eq, iI_lt0, iI_le0, iI_0lt, iI_0le, iI_eq0, iI_eq1, lI_lt0, lI_le0, lI_0lt, lI_0le, lI_eq0, ix_cl, ix_iff, upd_iI, updL_lI, lI_divF, lI_remF, iI_divF, iI_remF, em_eq, Int.not_lt, Int.not_le, true_implies, false_implies, and_true, true_and, not_true_eq_false, not_false_eq_true, true_or, or_true, or_false, false_or])); (conv => whnf)
            repeat' ((first | (refine ⟨fun _ => ?_, fun hb => absurd hb (by omega)⟩) | (refine ⟨fun hb => absurd hb (by omega), fun _ => ?_⟩) | (refine ⟨by omega, ?_⟩) | (refine ⟨⟨by omega, (by (conv => whnf); exact trivial)⟩, ?_⟩) | (refine ⟨(Nat.le_of_ble_eq_true rfl), bWp_ok _ (by (conv => whnf); exact trivial), ?_⟩) | (refine ⟨fun _ => ?_, fun _ => ?_⟩) | fail) <;> ((repeat ((conv => whnf); simp (disch := omega) only [Int.cast_ofNat_Int, Int.reduceToNat, iI_tt, Int.toNat_natCast, iI_add, iI_sub, iI_mul, iI_neg, lI_add, lI_sub, lI_mul, lI_neg, i2l_, l2i_, iI_lt, iI_le, iI_eq, lI_lt, lI_le, lI_eq, iI_lt0, iI_le0, iI_0lt, iI_0le, iI_eq0, iI_eq1, lI_lt0, lI_le0, lI_0lt, lI_0le, lI_eq0, ix_cl, ix_iff, upd_iI, updL_lI, lI_divF, lI_remF, iI_divF, iI_remF, em_eq, Int.not_lt, Int.not_le, true_implies, false_implies, and_true, true_and, not_true_eq_false, not_false_eq_true, true_or, or_true, or_false, false_or])); (conv => whnf)))
            exact fin
          · have fin := t9 (nin (exF x1 x y) wh :: τ) (by unfold cvS; rw [if_pos h]; rfl) (by decide) (by decide) (upI pd τ.length (nin (exF x1 x y) wh)) (STp.push hS.2.2) (by rw [List.length_cons]; omega) (SB.cons (fun z hz => hb z (by simp [hz])) (nin_nin _ _))
            rw [List.length_cons] at fin
            (repeat ((conv => whnf); simp (disch := omega) only [Int.cast_ofNat_Int, Int.reduceToNat, iI_tt, Int.toNat_natCast, iI_add, iI_sub, iI_mul, iI_neg, lI_add, lI_sub, lI_mul, lI_neg, i2l_, l2i_, iI_lt, iI_le, iI_eq, lI_lt, lI_le, lI_eq, iI_lt0, iI_le0, iI_0lt, iI_0le, iI_eq0, iI_eq1, lI_lt0, lI_le0, lI_0lt, lI_0le, lI_eq0, ix_cl, ix_iff, upd_iI, updL_lI, lI_divF, lI_remF, iI_divF, iI_remF, em_eq, Int.not_lt, Int.not_le, true_implies, false_implies, and_true, true_and, not_true_eq_false, not_false_eq_true, true_or, or_true, or_false, false_or])); (conv => whnf)
            repeat' ((first | (refine ⟨fun _ => ?_, fun hb => absurd hb (by omega)⟩) | (refine ⟨fun hb => absurd hb (by omega), fun _ => ?_⟩) | (refine ⟨by omega, ?_⟩) | (refine ⟨⟨by omega, (by (conv => whnf); exact trivial)⟩, ?_⟩) | (refine ⟨(Nat.le_of_ble_eq_true rfl), bWp_ok _ (by (conv => whnf); exact trivial), ?_⟩) | (refine ⟨fun _ => ?_, fun _ => ?_⟩) | fail) <;> ((repeat ((conv => whnf); simp (disch := omega) only [Int.cast_ofNat_Int, Int.reduceToNat, iI_tt, Int.toNat_natCast, iI_add, iI_sub, iI_mul, iI_neg, lI_add, lI_sub, lI_mul, lI_neg, i2l_, l2i_, iI_lt, iI_le, iI_eq, lI_lt, lI_le, lI_eq, iI_lt0, iI_le0, iI_0lt, iI_0le, iI_eq0, iI_eq1, lI_lt0, lI_le0, lI_0lt, lI_0le, lI_eq0, ix_cl, ix_iff, upd_iI, updL_lI, lI_divF, lI_remF, iI_divF, iI_remF, em_eq, Int.not_lt, Int.not_le, true_implies, false_implies, and_true, true_and, not_true_eq_false, not_false_eq_true, true_or, or_true, or_false, false_or])); (conv => whnf)))
            exact fin
      · rw [if_neg e2] at hR
        cases hR
