/-! THE CLASS: a program is done -/
theorem at_k {α : Type} {LL X Z : List α} {y : α} (h : LL = X ++ (y :: Z)) : LL[X.length]? = some y ∧ X.length < LL.length := by
  subst h
  refine ⟨?_, ?_⟩
  · rw [List.getElem?_append_right (Nat.le_refl _), Nat.sub_self]
    rfl
  · rw [List.length_append, List.length_cons]
    omega
theorem lp_ev {d mc ms : Nat} {n ck st wh rg : Int} {md wt num acc : Nat → Int} {K : Option Value → PW → Prop} {KX : String → PW → Prop} {ki fi sc : Nat → Int} {zs dn : Int} {LL : List (Int × Int × Int)} {R : Sum Int (List Int)} (hP : PR3 LL ki fi sc zs) (hLL : LL.length ≤ 1000) (hB : MB n ck wh rg md wt num) (hs : 0 ≤ st ∧ st ≤ 1)
    (f9 : ∀ w, R = .inl w → ∀ pd' ht', K (some (.int (iI dn))) ((pgW ki fi sc (pd') zs (ht')) ++ mlC 5 n ck st wh rg md wt num (bk acc w.toNat))) : ∀ (L A B : List (Int × Int × Int)) (σ : List Int) (pd : Nat → Int), LL = A ++ (L ++ B) → STp σ pd → σ.length ≤ 32 → SB wh σ → evC st rg wh num L σ = some R →
    (∀ τ, R = .inr τ → ∀ pd', STp τ pd' → τ.length ≤ 32 → SB wh τ → GO M_Pg_play (d + 6) mc ms 4 [some (.ref 0), some (.ref 5), some (.int (iI dn)), some (.int (iI ((A.length : Int) + L.length)))] [] ((pgW ki fi sc (pd') zs ((τ.length : Int))) ++ mlC 5 n ck st wh rg md wt num acc) K KX) →
    GO M_Pg_play (d + 6) mc ms 4 [some (.ref 0), some (.ref 5), some (.int (iI dn)), some (.int (iI (A.length : Int)))] [] ((pgW ki fi sc pd zs ((σ.length : Int))) ++ mlC 5 n ck st wh rg md wt num acc) K KX := by
  intro L
  induction L with
  | nil =>
    intro A B σ pd hl hS h32 hb he t9
    cases he
    have := t9 σ rfl pd hS h32 hb
    rw [show (A.length : Int) + ([] : List (Int × Int × Int)).length = A.length by rw [List.length_nil]; omega] at this
    exact this
  | cons x L ih =>
    intro A B σ pd hl hS h32 hb he t9
    have he' : bnS (stpC st rg wh num x σ) (evC st rg wh num L) = some R := he
    obtain ⟨hx, hlt⟩ := at_k (X := A) (y := x) (Z := L ++ B) hl
    obtain ⟨k1, k2, k3⟩ := hP.2 _ x hx
    have hz := hP.1
    cases e : stpC st rg wh num x σ with
    | none => rw [e] at he'; cases he'
    | some r =>
      rw [e] at he'
      refine run k_Pg_play [4] 900 ?_
      (repeat ((conv => whnf); simp (disch := omega) only [Int.cast_ofNat_Int, Int.reduceToNat, iI_tt, Int.toNat_natCast, iI_add, iI_sub, iI_mul, iI_neg, lI_add, lI_sub, lI_mul, lI_neg, i2l_, l2i_, iI_lt, iI_le, iI_eq, lI_lt, lI_le, lI_eq, iI_lt0, iI_le0, iI_0lt, iI_0le, iI_eq0, iI_eq1, lI_lt0, lI_le0, lI_0lt, lI_0le, lI_eq0, ix_cl, ix_iff, upd_iI, updL_lI, lI_divF, lI_remF, iI_divF, iI_remF, em_eq, Int.not_lt, Int.not_le, true_implies, false_implies, and_true, true_and, not_true_eq_false, not_false_eq_true, true_or, or_true, or_false, false_or])); (conv => whnf)
      (repeat ((conv => whnf); simp (disch := omega) only [Int.cast_ofNat_Int, Int.reduceToNat, iI_tt, Int.toNat_natCast, iI_add, iI_sub, iI_mul, iI_neg, lI_add, lI_sub, lI_mul, lI_neg, i2l_, l2i_, iI_lt, iI_le, iI_eq, lI_lt, lI_le, lI_eq, iI_lt0, iI_le0, iI_0lt, iI_0le, iI_eq0, iI_eq1, lI_lt0, lI_le0, lI_0lt, lI_0le, lI_eq0, ix_cl, ix_iff, upd_iI, updL_lI, lI_divF, lI_remF, iI_divF, iI_remF, em_eq, Int.not_lt, Int.not_le, true_implies, false_implies, and_true, true_and, not_true_eq_false, not_false_eq_true, true_or, or_true, or_false, false_or])); (conv => whnf)
      repeat' ((first | (refine ⟨fun _ => ?_, fun hb => absurd hb (by omega)⟩) | (refine ⟨fun hb => absurd hb (by omega), fun _ => ?_⟩) | (refine ⟨by omega, ?_⟩) | (refine ⟨⟨by omega, (by (conv => whnf); exact trivial)⟩, ?_⟩) | (refine ⟨(Nat.le_of_ble_eq_true rfl), bWp_ok _ (by (conv => whnf); exact trivial), ?_⟩) | (refine ⟨fun _ => ?_, fun _ => ?_⟩) | fail) <;> ((repeat ((conv => whnf); simp (disch := omega) only [Int.cast_ofNat_Int, Int.reduceToNat, iI_tt, Int.toNat_natCast, iI_add, iI_sub, iI_mul, iI_neg, lI_add, lI_sub, lI_mul, lI_neg, i2l_, l2i_, iI_lt, iI_le, iI_eq, lI_lt, lI_le, lI_eq, iI_lt0, iI_le0, iI_0lt, iI_0le, iI_eq0, iI_eq1, lI_lt0, lI_le0, lI_0lt, lI_0le, lI_eq0, ix_cl, ix_iff, upd_iI, updL_lI, lI_divF, lI_remF, iI_divF, iI_remF, em_eq, Int.not_lt, Int.not_le, true_implies, false_implies, and_true, true_and, not_true_eq_false, not_false_eq_true, true_or, or_true, or_false, false_or])); (conv => whnf)))
      all_goals try (exfalso; omega)
      rw [k1, k2, k3]
      refine c_Pg_doStepE hB hs hS h32 hb rfl e (fun w hw h0 hwb ht' => ?_) (fun τ hτ x2 x0 pd' hS' h32' hb' => ?_)
      · subst hw
        cases he'
        (repeat ((conv => whnf); simp (disch := omega) only [Int.cast_ofNat_Int, Int.reduceToNat, iI_tt, Int.toNat_natCast, iI_add, iI_sub, iI_mul, iI_neg, lI_add, lI_sub, lI_mul, lI_neg, i2l_, l2i_, iI_lt, iI_le, iI_eq, lI_lt, lI_le, lI_eq, iI_lt0, iI_le0, iI_0lt, iI_0le, iI_eq0, iI_eq1, lI_lt0, lI_le0, lI_0lt, lI_0le, lI_eq0, ix_cl, ix_iff, upd_iI, updL_lI, lI_divF, lI_remF, iI_divF, iI_remF, em_eq, Int.not_lt, Int.not_le, true_implies, false_implies, and_true, true_and, not_true_eq_false, not_false_eq_true, true_or, or_true, or_false, false_or])); (conv => whnf)
        repeat' ((first | (refine ⟨fun _ => ?_, fun hb => absurd hb (by omega)⟩) | (refine ⟨fun hb => absurd hb (by omega), fun _ => ?_⟩) | (refine ⟨by omega, ?_⟩) | (refine ⟨⟨by omega, (by (conv => whnf); exact trivial)⟩, ?_⟩) | (refine ⟨(Nat.le_of_ble_eq_true rfl), bWp_ok _ (by (conv => whnf); exact trivial), ?_⟩) | (refine ⟨fun _ => ?_, fun _ => ?_⟩) | fail) <;> ((repeat ((conv => whnf); simp (disch := omega) only [Int.cast_ofNat_Int, Int.reduceToNat, iI_tt, Int.toNat_natCast, iI_add, iI_sub, iI_mul, iI_neg, lI_add, lI_sub, lI_mul, lI_neg, i2l_, l2i_, iI_lt, iI_le, iI_eq, lI_lt, lI_le, lI_eq, iI_lt0, iI_le0, iI_0lt, iI_0le, iI_eq0, iI_eq1, lI_lt0, lI_le0, lI_0lt, lI_0le, lI_eq0, ix_cl, ix_iff, upd_iI, updL_lI, lI_divF, lI_remF, iI_divF, iI_remF, em_eq, Int.not_lt, Int.not_le, true_implies, false_implies, and_true, true_and, not_true_eq_false, not_false_eq_true, true_or, or_true, or_false, false_or])); (conv => whnf)))
        all_goals try (exfalso; omega)
        exact f9 w rfl _ _
      · subst hτ
        have fin := ih (A ++ [x]) B τ pd' (by rw [hl]; simp) hS' h32' hb' he' (fun τ' hτ' pd2 a1 a2 a3 => by
          have := t9 τ' hτ' pd2 a1 a2 a3
          rw [show ((A ++ [x]).length : Int) + L.length = (A.length : Int) + (x :: L).length by rw [List.length_append, List.length_singleton, List.length_cons]; omega]
          exact this)
        rw [show ((A ++ [x]).length : Int) = (A.length : Int) + 1 by rw [List.length_append, List.length_singleton]; omega] at fin
        (repeat ((conv => whnf); simp (disch := omega) only [Int.cast_ofNat_Int, Int.reduceToNat, iI_tt, Int.toNat_natCast, iI_add, iI_sub, iI_mul, iI_neg, lI_add, lI_sub, lI_mul, lI_neg, i2l_, l2i_, iI_lt, iI_le, iI_eq, lI_lt, lI_le, lI_eq, iI_lt0, iI_le0, iI_0lt, iI_0le, iI_eq0, iI_eq1, lI_lt0, lI_le0, lI_0lt, lI_0le, lI_eq0, ix_cl, ix_iff, upd_iI, updL_lI, lI_divF, lI_remF, iI_divF, iI_remF, em_eq, Int.not_lt, Int.not_le, true_implies, false_implies, and_true, true_and, not_true_eq_false, not_false_eq_true, true_or, or_true, or_false, false_or])); (conv => whnf)
        repeat' ((first | (refine ⟨fun _ => ?_, fun hb => absurd hb (by omega)⟩) | (refine ⟨fun hb => absurd hb (by omega), fun _ => ?_⟩) | (refine ⟨by omega, ?_⟩) | (refine ⟨⟨by omega, (by (conv => whnf); exact trivial)⟩, ?_⟩) | (refine ⟨(Nat.le_of_ble_eq_true rfl), bWp_ok _ (by (conv => whnf); exact trivial), ?_⟩) | (refine ⟨fun _ => ?_, fun _ => ?_⟩) | fail) <;> ((repeat ((conv => whnf); simp (disch := omega) only [Int.cast_ofNat_Int, Int.reduceToNat, iI_tt, Int.toNat_natCast, iI_add, iI_sub, iI_mul, iI_neg, lI_add, lI_sub, lI_mul, lI_neg, i2l_, l2i_, iI_lt, iI_le, iI_eq, lI_lt, lI_le, lI_eq, iI_lt0, iI_le0, iI_0lt, iI_0le, iI_eq0, iI_eq1, lI_lt0, lI_le0, lI_0lt, lI_0le, lI_eq0, ix_cl, ix_iff, upd_iI, updL_lI, lI_divF, lI_remF, iI_divF, iI_remF, em_eq, Int.not_lt, Int.not_le, true_implies, false_implies, and_true, true_and, not_true_eq_false, not_false_eq_true, true_or, or_true, or_false, false_or])); (conv => whnf)))
        all_goals try (exfalso; omega)
        exact GO_take 4 fin
theorem stsC_cons (s : S9) (l : List S9) : stsC (s :: l) = stC s ++ stsC l := rfl
theorem stsC_app (A l : List S9) : stsC (A ++ l) = stsC A ++ stsC l := by
  unfold stsC
  rw [List.flatMap_append]
