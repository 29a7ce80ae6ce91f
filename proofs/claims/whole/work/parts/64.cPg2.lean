/-! SCRIPTS: what doing them keeps -/
theorem calcS_sb {st rg wh o : Int} {σ τ : List Int} (hb : SB wh σ) (h : calcS st rg wh o σ = some (.inr τ)) : SB wh τ := by
  rcases σ with _ | ⟨y, _ | ⟨x, σ⟩⟩
  · cases h
  · cases h
  · rw [calcS_c] at h
    unfold cvS at h
    split at h
    · cases h
      exact SB.cons (fun z hz => hb z (by simp [hz])) (nin_nin _ _)
    · cases h
theorem pushS_sb {wh z : Int} {σ τ : List Int} (hb : SB wh σ) (h : pushS wh z σ = some (.inr τ)) : SB wh τ := by
  unfold pushS at h
  split at h
  · next hc =>
    cases h
    exact hb.cons hc.2
  · cases h
theorem stpC_sb {st rg wh : Int} {num : Nat → Int} {x : Int × Int × Int} {σ τ : List Int} (hb : SB wh σ) (h : stpC st rg wh num x σ = some (.inr τ)) : SB wh τ := by
  unfold stpC at h
  split at h
  · exact pushS_sb hb h
  · split at h
    · exact pushS_sb hb h
    · split at h
      · exact calcS_sb hb h
      · cases h
theorem evC_sb {st rg wh : Int} {num : Nat → Int} : ∀ {L : List (Int × Int × Int)} {σ τ : List Int}, SB wh σ → evC st rg wh num L σ = some (.inr τ) → SB wh τ
  | [], σ, τ, hb, h => by
    cases h
    exact hb
  | x :: L, σ, τ, hb, h => by
    have h' : bnS (stpC st rg wh num x σ) (evC st rg wh num L) = some (.inr τ) := h
    cases e : stpC st rg wh num x σ with
    | none => rw [e] at h'; cases h'
    | some r =>
      rw [e] at h'
      cases r with
      | inl w => cases h'
      | inr ρ => exact evC_sb (stpC_sb hb e) h'
theorem calcS_r {st rg wh o w : Int} {σ : List Int} (h : calcS st rg wh o σ = some (.inl w)) : w = 1 ∨ w = 2 := by
  rcases σ with _ | ⟨y, _ | ⟨x, σ⟩⟩
  · cases h
  · cases h
  · rw [calcS_c] at h
    have hr := rsF_b (st := st) (rg := rg) (wh := wh) (o := o) (a := x) (b := y)
    unfold cvS at h
    split at h
    · cases h
    · cases h
      omega
theorem pushS_r {wh z w : Int} {σ : List Int} : pushS wh z σ ≠ some (.inl w) := by
  unfold pushS
  split <;> intro h <;> cases h
theorem evC_r {st rg wh w : Int} {num : Nat → Int} : ∀ {L : List (Int × Int × Int)} {σ : List Int}, evC st rg wh num L σ = some (.inl w) → w = 1 ∨ w = 2
  | [], σ, h => by cases h
  | x :: L, σ, h => by
    have h' : bnS (stpC st rg wh num x σ) (evC st rg wh num L) = some (.inl w) := h
    cases e : stpC st rg wh num x σ with
    | none => rw [e] at h'; cases h'
    | some r =>
      rw [e] at h'
      cases r with
      | inl w2 =>
        cases h'
        unfold stpC at e
        split at e
        · exact absurd e pushS_r
        · split at e
          · exact absurd e pushS_r
          · split at e
            · exact calcS_r e
            · cases e
      | inr ρ => exact evC_r h'
theorem EV.ev {n ck st wh rg h : Int} {md wt num : Nat → Int} {a : E9} (H : EV h 15 a) (hM : MOk n ck wh rg md wt num) (hh : (rg - 1) / 2 = h) : ∃ v : Sum Int Int, evC st rg wh num a.1 [] = some (vS v []) ∧ evM st rg wh num a.2 [] = some (vS v []) := by
  obtain ⟨⟨b1, b2, b3⟩, b4, b5, b6, b7, b8, b9⟩ := hM
  have hle : rg ≤ wh := by
    rw [b5, b6]
    exact PN_mono _ (by omega) (fun k hk => by have := b2 k (by omega); omega)
  obtain ⟨v, hv⟩ := H st rg wh num (by omega) hle hh b9
  exact ⟨v, hv [] (by decide)⟩
theorem mdF_e {n wh rg : Int} {md wt : Nat → Int} {x y : Int} (h : mdF n wh rg md wt x = some y) : MdR n wh rg md wt x y := by
  unfold mdF at h
  by_cases e : ∃ y, MdR n wh rg md wt x y
  · rw [dif_pos e] at h
    cases h
    exact e.choose_spec
  · rw [dif_neg e] at h
    cases h
theorem stF_ok {n ck st wh rg : Int} {md wt num acc : Nat → Int} {s : S9} (hM : MOk n ck wh rg md wt num) (hs : 0 ≤ st ∧ st ≤ 1) (hS : SOk n ((rg - 1) / 2) s) : MOk n ck wh rg md wt (stF n wh rg md wt s (st, num, acc)).2.2.1 ∧ (0 ≤ (stF n wh rg md wt s (st, num, acc)).2.1 ∧ (stF n wh rg md wt s (st, num, acc)).2.1 ≤ 1) ∧ (0 ≤ (stF n wh rg md wt s (st, num, acc)).1 ∧ (stF n wh rg md wt s (st, num, acc)).1 ≤ 3) := by
  obtain ⟨⟨w, a, o⟩, e⟩ := s
  unfold stF
  simp only
  by_cases e0 : w = 0
  · rw [if_pos e0]
    rcases hS with ⟨h1, h2, h3, h4⟩ | ⟨-, h5⟩
    · obtain ⟨v, hv, -⟩ := h4.ev hM rfl (st := st)
      simp only at hv
      rw [hv]
      cases v with
      | inl w =>
        have := evC_r hv
        exact ⟨hM, hs, by show 0 ≤ w ∧ w ≤ 3; omega⟩
      | inr x =>
        have hx : nin x wh = x := evC_sb SB.nil hv x (by simp)
        refine ⟨?_, hs, by show (0 : Int) ≤ 0 ∧ (0 : Int) ≤ 3; omega⟩
        show MOk n ck wh rg md wt (upI num a.toNat x)
        rw [← hx]
        exact MOk_put hM
    · simp only at h5
      omega
  · rw [if_neg e0]
    by_cases e1 : w = 1
    · rw [if_pos e1]
      split
      · exact ⟨hM, hs, by show (0 : Int) ≤ 2 ∧ (2 : Int) ≤ 3; omega⟩
      · exact ⟨MOk_put hM, hs, by show (0 : Int) ≤ 0 ∧ (0 : Int) ≤ 3; omega⟩
    · rw [if_neg e1]
      by_cases e2 : w = 2
      · rw [if_pos e2]
        exact ⟨MOk_put (MOk_put hM), hs, by show (0 : Int) ≤ 0 ∧ (0 : Int) ≤ 3; omega⟩
      · rw [if_neg e2]
        by_cases e3 : w = 3
        · rw [if_pos e3]
          split
          · next y hy =>
            obtain ⟨-, k, v, -, -, -, -, hy2⟩ := mdF_e hy
            refine ⟨?_, hs, by show (0 : Int) ≤ 0 ∧ (0 : Int) ≤ 3; omega⟩
            show MOk n ck wh rg md wt (upI num a.toNat y)
            rw [hy2]
            exact MOk_put hM
          · exact ⟨hM, hs, by show (0 : Int) ≤ 3 ∧ (3 : Int) ≤ 3; omega⟩
        · rw [if_neg e3]
          rcases hS with ⟨h1, -⟩ | ⟨-, h5⟩
          · simp only at h1
            omega
          · simp only at h5
            exact ⟨hM, by show 0 ≤ a ∧ a ≤ 1; omega, by show (0 : Int) ≤ 0 ∧ (0 : Int) ≤ 3; omega⟩
/-! THE CLASS: what a statement does -/
theorem c_Pg_give {d mc ms : Nat} {ki fi sc pd : Nat → Int} {zs ht : Int} {n ck st wh rg : Int} {md wt num acc : Nat → Int} {K : Option Value → PW → Prop} {KX : String → PW → Prop} {r x : Int} (hB : MB n ck wh rg md wt num) (h0 : 0 ≤ r) (h8 : r < 8) (hS : STp [x] pd) (hb : SB wh [x]) (hht : ht = 1) (h : K (some (.int (iI 0))) ((pgW ki fi sc pd zs (0)) ++ mlC 5 n ck st wh rg md wt (upI num r.toNat x) (finA rg x acc))) : WQ M_Pg_doStep (d + 5) mc ms [.ref 0, .ref 5, .int (iI 3), .int (iI r), .int (iI 0)] ((pgW ki fi sc pd zs ht) ++ mlC 5 n ck st wh rg md wt num acc) K KX := by
  subst hht
  have hw := hB.1
  have hx := hb.b (x := x) (by simp) ⟨hw.2.2.2.2.1, hw.2.2.2.2.2.1⟩
  have hx2 := hb x (by simp)
  have hp : pd ((1 : Int) - 1).toNat = x := hS.1
  rw [← hx2] at h
  refine methC (pf_Pg rfl) (tz_Pg rfl) rfl ?_
  refine run k_Pg_doStep [] 900 ?_
  (repeat ((conv => whnf); simp (disch := omega) only [Int.cast_ofNat_Int, Int.reduceToNat, iI_tt, Int.toNat_natCast, iI_add, iI_sub, iI_mul, iI_neg, lI_add, lI_sub, lI_mul, lI_neg, i2l_, l2i_, iI_lt, iI_le, iI_eq, lI_lt, lI_le, lI_eq, iI_lt0, iI_le0, iI_0lt, iI_0le, iI_eq0, iI_eq1, lI_lt0, lI_le0, lI_0lt, lI_0le, lI_eq0, ix_cl, ix_iff, upd_iI, updL_lI, lI_divF, lI_remF, iI_divF, iI_remF, em_eq, Int.not_lt, Int.not_le, true_implies, false_implies, and_true, true_and, not_true_eq_false, not_false_eq_true, true_or, or_true, or_false, false_or])); (conv => whnf)
  refine ⟨swK_cons (fun _ => ?_) (swK_cons (fun _ => ?_) (swK_cons (fun _ => ?_) (swK_cons (fun _ => ?_) (swK_cons (fun _ => ?_) (swK_cons (fun _ => ?_) (swK_cons (fun _ => ?_) (swK_nil))))))), fun hs => ?_⟩ <;> (try simp only [List.length_cons, List.length_nil] at hs) <;> first | (exfalso; omega) | ((repeat ((conv => whnf); simp (disch := omega) only [Int.cast_ofNat_Int, Int.reduceToNat, iI_tt, Int.toNat_natCast, iI_add, iI_sub, iI_mul, iI_neg, lI_add, lI_sub, lI_mul, lI_neg, i2l_, l2i_, iI_lt, iI_le, iI_eq, lI_lt, lI_le, lI_eq, iI_lt0, iI_le0, iI_0lt, iI_0le, iI_eq0, iI_eq1, lI_lt0, lI_le0, lI_0lt, lI_0le, lI_eq0, ix_cl, ix_iff, upd_iI, updL_lI, lI_divF, lI_remF, iI_divF, iI_remF, em_eq, Int.not_lt, Int.not_le, true_implies, false_implies, and_true, true_and, not_true_eq_false, not_false_eq_true, true_or, or_true, or_false, false_or])); (conv => whnf))
  refine WQ_fr [0, 1, 2, 3, 4] ((pgW ki fi sc pd zs (1))) [.ref 0] rfl rfl rfl rfl ?_
  refine c_Pg_pop (by omega) (by omega) ?_
  (repeat ((conv => whnf); simp (disch := omega) only [Int.cast_ofNat_Int, Int.reduceToNat, iI_tt, Int.toNat_natCast, iI_add, iI_sub, iI_mul, iI_neg, lI_add, lI_sub, lI_mul, lI_neg, i2l_, l2i_, iI_lt, iI_le, iI_eq, lI_lt, lI_le, lI_eq, iI_lt0, iI_le0, iI_0lt, iI_0le, iI_eq0, iI_eq1, lI_lt0, lI_le0, lI_0lt, lI_0le, lI_eq0, ix_cl, ix_iff, upd_iI, updL_lI, lI_divF, lI_remF, iI_divF, iI_remF, em_eq, Int.not_lt, Int.not_le, true_implies, false_implies, and_true, true_and, not_true_eq_false, not_false_eq_true, true_or, or_true, or_false, false_or])); (conv => whnf)
  rw [hp, show (1 : Int) - 1 = 0 from rfl]
  refine WQ_fr [5, 6, 7, 8, 9, 10] (mlW n ck st wh rg md wt num acc) [.ref 0, .int (iI r), .long (lI x)] rfl rfl rfl rfl ?_
  refine c_Ml_finish hB h0 h8 ⟨by omega, by omega⟩ ?_
  (repeat ((conv => whnf); simp (disch := omega) only [Int.cast_ofNat_Int, Int.reduceToNat, iI_tt, Int.toNat_natCast, iI_add, iI_sub, iI_mul, iI_neg, lI_add, lI_sub, lI_mul, lI_neg, i2l_, l2i_, iI_lt, iI_le, iI_eq, lI_lt, lI_le, lI_eq, iI_lt0, iI_le0, iI_0lt, iI_0le, iI_eq0, iI_eq1, lI_lt0, lI_le0, lI_0lt, lI_0le, lI_eq0, ix_cl, ix_iff, upd_iI, updL_lI, lI_divF, lI_remF, iI_divF, iI_remF, em_eq, Int.not_lt, Int.not_le, true_implies, false_implies, and_true, true_and, not_true_eq_false, not_false_eq_true, true_or, or_true, or_false, false_or])); (conv => whnf)
  exact h
theorem c_Pg_other {d mc ms : Nat} {ki fi sc pd : Nat → Int} {zs ht : Int} {n ck st wh rg : Int} {md wt num acc : Nat → Int} {K : Option Value → PW → Prop} {KX : String → PW → Prop} {s : S9} (hB : MB n ck wh rg md wt num) (hs : 0 ≤ st ∧ st ≤ 1) (hS : SOk n ((rg - 1) / 2) s) (h0 : ¬ s.1.1 = 0) (h : K (some (.int (iI (stF n wh rg md wt s (st, num, acc)).1))) ((pgW ki fi sc pd zs ht) ++ mlC 5 n ck (stF n wh rg md wt s (st, num, acc)).2.1 wh rg md wt (stF n wh rg md wt s (st, num, acc)).2.2.1 (stF n wh rg md wt s (st, num, acc)).2.2.2)) : WQ M_Pg_doStep (d + 5) mc ms [.ref 0, .ref 5, .int (iI (s.1.1 + 3)), .int (iI s.1.2.1), .int (iI s.1.2.2)] ((pgW ki fi sc pd zs ht) ++ mlC 5 n ck st wh rg md wt num acc) K KX := by
  obtain ⟨⟨w, a, o⟩, e⟩ := s
  unfold stF at h
  simp only at h h0 ⊢
  rw [if_neg h0] at h
  rcases hS with ⟨h1, -⟩ | ⟨-, h5⟩
  · exact absurd h1 h0
  · simp only at h5
    rcases h5 with ⟨rfl, ha, o0, on⟩ | ⟨rfl, ha, o0, o8⟩ | ⟨rfl, ha, -⟩ | ⟨rfl, ha, -⟩
    · rw [if_pos rfl] at h
      refine methC (pf_Pg rfl) (tz_Pg rfl) rfl ?_
      refine run k_Pg_doStep [] 900 ?_
      (repeat ((conv => whnf); simp (disch := omega) only [Int.cast_ofNat_Int, Int.reduceToNat, iI_tt, Int.toNat_natCast, iI_add, iI_sub, iI_mul, iI_neg, lI_add, lI_sub, lI_mul, lI_neg, i2l_, l2i_, iI_lt, iI_le, iI_eq, lI_lt, lI_le, lI_eq, iI_lt0, iI_le0, iI_0lt, iI_0le, iI_eq0, iI_eq1, lI_lt0, lI_le0, lI_0lt, lI_0le, lI_eq0, ix_cl, ix_iff, upd_iI, updL_lI, lI_divF, lI_remF, iI_divF, iI_remF, em_eq, Int.not_lt, Int.not_le, true_implies, false_implies, and_true, true_and, not_true_eq_false, not_false_eq_true, true_or, or_true, or_false, false_or])); (conv => whnf)
      refine ⟨swK_cons (fun _ => ?_) (swK_cons (fun _ => ?_) (swK_cons (fun _ => ?_) (swK_cons (fun _ => ?_) (swK_cons (fun _ => ?_) (swK_cons (fun _ => ?_) (swK_cons (fun _ => ?_) (swK_nil))))))), fun hs => ?_⟩ <;> (try simp only [List.length_cons, List.length_nil] at hs) <;> first | (exfalso; omega) | ((repeat ((conv => whnf); simp (disch := omega) only [Int.cast_ofNat_Int, Int.reduceToNat, iI_tt, Int.toNat_natCast, iI_add, iI_sub, iI_mul, iI_neg, lI_add, lI_sub, lI_mul, lI_neg, i2l_, l2i_, iI_lt, iI_le, iI_eq, lI_lt, lI_le, lI_eq, iI_lt0, iI_le0, iI_0lt, iI_0le, iI_eq0, iI_eq1, lI_lt0, lI_le0, lI_0lt, lI_0le, lI_eq0, ix_cl, ix_iff, upd_iI, updL_lI, lI_divF, lI_remF, iI_divF, iI_remF, em_eq, Int.not_lt, Int.not_le, true_implies, false_implies, and_true, true_and, not_true_eq_false, not_false_eq_true, true_or, or_true, or_false, false_or])); (conv => whnf))
      refine WQ_fr [5, 6, 7, 8, 9, 10] (mlW n ck st wh rg md wt num acc) [.ref 0, .int (iI a), .int (iI o)] rfl rfl rfl rfl ?_
      refine c_Ml_actScale hB hs ha.1 ha.2 o0 on (fun hf => ?_) (fun hf => ?_)
      · rw [if_pos hf] at h
        (repeat ((conv => whnf); simp (disch := omega) only [Int.cast_ofNat_Int, Int.reduceToNat, iI_tt, Int.toNat_natCast, iI_add, iI_sub, iI_mul, iI_neg, lI_add, lI_sub, lI_mul, lI_neg, i2l_, l2i_, iI_lt, iI_le, iI_eq, lI_lt, lI_le, lI_eq, iI_lt0, iI_le0, iI_0lt, iI_0le, iI_eq0, iI_eq1, lI_lt0, lI_le0, lI_0lt, lI_0le, lI_eq0, ix_cl, ix_iff, upd_iI, updL_lI, lI_divF, lI_remF, iI_divF, iI_remF, em_eq, Int.not_lt, Int.not_le, true_implies, false_implies, and_true, true_and, not_true_eq_false, not_false_eq_true, true_or, or_true, or_false, false_or])); (conv => whnf)
        repeat' ((first | (refine ⟨fun _ => ?_, fun hb => absurd hb (by omega)⟩) | (refine ⟨fun hb => absurd hb (by omega), fun _ => ?_⟩) | (refine ⟨by omega, ?_⟩) | (refine ⟨⟨by omega, (by (conv => whnf); exact trivial)⟩, ?_⟩) | (refine ⟨(Nat.le_of_ble_eq_true rfl), bWp_ok _ (by (conv => whnf); exact trivial), ?_⟩) | (refine ⟨fun _ => ?_, fun _ => ?_⟩) | fail) <;> ((repeat ((conv => whnf); simp (disch := omega) only [Int.cast_ofNat_Int, Int.reduceToNat, iI_tt, Int.toNat_natCast, iI_add, iI_sub, iI_mul, iI_neg, lI_add, lI_sub, lI_mul, lI_neg, i2l_, l2i_, iI_lt, iI_le, iI_eq, lI_lt, lI_le, lI_eq, iI_lt0, iI_le0, iI_0lt, iI_0le, iI_eq0, iI_eq1, lI_lt0, lI_le0, lI_0lt, lI_0le, lI_eq0, ix_cl, ix_iff, upd_iI, updL_lI, lI_divF, lI_remF, iI_divF, iI_remF, em_eq, Int.not_lt, Int.not_le, true_implies, false_implies, and_true, true_and, not_true_eq_false, not_false_eq_true, true_or, or_true, or_false, false_or])); (conv => whnf)))
        exact h
      · rw [if_neg hf] at h
        (repeat ((conv => whnf); simp (disch := omega) only [Int.cast_ofNat_Int, Int.reduceToNat, iI_tt, Int.toNat_natCast, iI_add, iI_sub, iI_mul, iI_neg, lI_add, lI_sub, lI_mul, lI_neg, i2l_, l2i_, iI_lt, iI_le, iI_eq, lI_lt, lI_le, lI_eq, iI_lt0, iI_le0, iI_0lt, iI_0le, iI_eq0, iI_eq1, lI_lt0, lI_le0, lI_0lt, lI_0le, lI_eq0, ix_cl, ix_iff, upd_iI, updL_lI, lI_divF, lI_remF, iI_divF, iI_remF, em_eq, Int.not_lt, Int.not_le, true_implies, false_implies, and_true, true_and, not_true_eq_false, not_false_eq_true, true_or, or_true, or_false, false_or])); (conv => whnf)
        repeat' ((first | (refine ⟨fun _ => ?_, fun hb => absurd hb (by omega)⟩) | (refine ⟨fun hb => absurd hb (by omega), fun _ => ?_⟩) | (refine ⟨by omega, ?_⟩) | (refine ⟨⟨by omega, (by (conv => whnf); exact trivial)⟩, ?_⟩) | (refine ⟨(Nat.le_of_ble_eq_true rfl), bWp_ok _ (by (conv => whnf); exact trivial), ?_⟩) | (refine ⟨fun _ => ?_, fun _ => ?_⟩) | fail) <;> ((repeat ((conv => whnf); simp (disch := omega) only [Int.cast_ofNat_Int, Int.reduceToNat, iI_tt, Int.toNat_natCast, iI_add, iI_sub, iI_mul, iI_neg, lI_add, lI_sub, lI_mul, lI_neg, i2l_, l2i_, iI_lt, iI_le, iI_eq, lI_lt, lI_le, lI_eq, iI_lt0, iI_le0, iI_0lt, iI_0le, iI_eq0, iI_eq1, lI_lt0, lI_le0, lI_0lt, lI_0le, lI_eq0, ix_cl, ix_iff, upd_iI, updL_lI, lI_divF, lI_remF, iI_divF, iI_remF, em_eq, Int.not_lt, Int.not_le, true_implies, false_implies, and_true, true_and, not_true_eq_false, not_false_eq_true, true_or, or_true, or_false, false_or])); (conv => whnf)))
        exact h
    · rw [if_neg (by decide), if_pos rfl] at h
      refine methC (pf_Pg rfl) (tz_Pg rfl) rfl ?_
      refine run k_Pg_doStep [] 900 ?_
      (repeat ((conv => whnf); simp (disch := omega) only [Int.cast_ofNat_Int, Int.reduceToNat, iI_tt, Int.toNat_natCast, iI_add, iI_sub, iI_mul, iI_neg, lI_add, lI_sub, lI_mul, lI_neg, i2l_, l2i_, iI_lt, iI_le, iI_eq, lI_lt, lI_le, lI_eq, iI_lt0, iI_le0, iI_0lt, iI_0le, iI_eq0, iI_eq1, lI_lt0, lI_le0, lI_0lt, lI_0le, lI_eq0, ix_cl, ix_iff, upd_iI, updL_lI, lI_divF, lI_remF, iI_divF, iI_remF, em_eq, Int.not_lt, Int.not_le, true_implies, false_implies, and_true, true_and, not_true_eq_false, not_false_eq_true, true_or, or_true, or_false, false_or])); (conv => whnf)
      refine ⟨swK_cons (fun _ => ?_) (swK_cons (fun _ => ?_) (swK_cons (fun _ => ?_) (swK_cons (fun _ => ?_) (swK_cons (fun _ => ?_) (swK_cons (fun _ => ?_) (swK_cons (fun _ => ?_) (swK_nil))))))), fun hs => ?_⟩ <;> (try simp only [List.length_cons, List.length_nil] at hs) <;> first | (exfalso; omega) | ((repeat ((conv => whnf); simp (disch := omega) only [Int.cast_ofNat_Int, Int.reduceToNat, iI_tt, Int.toNat_natCast, iI_add, iI_sub, iI_mul, iI_neg, lI_add, lI_sub, lI_mul, lI_neg, i2l_, l2i_, iI_lt, iI_le, iI_eq, lI_lt, lI_le, lI_eq, iI_lt0, iI_le0, iI_0lt, iI_0le, iI_eq0, iI_eq1, lI_lt0, lI_le0, lI_0lt, lI_0le, lI_eq0, ix_cl, ix_iff, upd_iI, updL_lI, lI_divF, lI_remF, iI_divF, iI_remF, em_eq, Int.not_lt, Int.not_le, true_implies, false_implies, and_true, true_and, not_true_eq_false, not_false_eq_true, true_or, or_true, or_false, false_or])); (conv => whnf))
      refine WQ_fr [5, 6, 7, 8, 9, 10] (mlW n ck st wh rg md wt num acc) [.ref 0, .int (iI a), .int (iI o)] rfl rfl rfl rfl ?_
      refine c_Ml_exchange hB ha.1 ha.2 o0 o8 ?_
      (repeat ((conv => whnf); simp (disch := omega) only [Int.cast_ofNat_Int, Int.reduceToNat, iI_tt, Int.toNat_natCast, iI_add, iI_sub, iI_mul, iI_neg, lI_add, lI_sub, lI_mul, lI_neg, i2l_, l2i_, iI_lt, iI_le, iI_eq, lI_lt, lI_le, lI_eq, iI_lt0, iI_le0, iI_0lt, iI_0le, iI_eq0, iI_eq1, lI_lt0, lI_le0, lI_0lt, lI_0le, lI_eq0, ix_cl, ix_iff, upd_iI, updL_lI, lI_divF, lI_remF, iI_divF, iI_remF, em_eq, Int.not_lt, Int.not_le, true_implies, false_implies, and_true, true_and, not_true_eq_false, not_false_eq_true, true_or, or_true, or_false, false_or])); (conv => whnf)
      exact h
    · rw [if_neg (by decide), if_neg (by decide), if_pos rfl] at h
      refine methC (pf_Pg rfl) (tz_Pg rfl) rfl ?_
      refine run k_Pg_doStep [] 900 ?_
      (repeat ((conv => whnf); simp (disch := omega) only [Int.cast_ofNat_Int, Int.reduceToNat, iI_tt, Int.toNat_natCast, iI_add, iI_sub, iI_mul, iI_neg, lI_add, lI_sub, lI_mul, lI_neg, i2l_, l2i_, iI_lt, iI_le, iI_eq, lI_lt, lI_le, lI_eq, iI_lt0, iI_le0, iI_0lt, iI_0le, iI_eq0, iI_eq1, lI_lt0, lI_le0, lI_0lt, lI_0le, lI_eq0, ix_cl, ix_iff, upd_iI, updL_lI, lI_divF, lI_remF, iI_divF, iI_remF, em_eq, Int.not_lt, Int.not_le, true_implies, false_implies, and_true, true_and, not_true_eq_false, not_false_eq_true, true_or, or_true, or_false, false_or])); (conv => whnf)
      refine ⟨swK_cons (fun _ => ?_) (swK_cons (fun _ => ?_) (swK_cons (fun _ => ?_) (swK_cons (fun _ => ?_) (swK_cons (fun _ => ?_) (swK_cons (fun _ => ?_) (swK_cons (fun _ => ?_) (swK_nil))))))), fun hs => ?_⟩ <;> (try simp only [List.length_cons, List.length_nil] at hs) <;> first | (exfalso; omega) | ((repeat ((conv => whnf); simp (disch := omega) only [Int.cast_ofNat_Int, Int.reduceToNat, iI_tt, Int.toNat_natCast, iI_add, iI_sub, iI_mul, iI_neg, lI_add, lI_sub, lI_mul, lI_neg, i2l_, l2i_, iI_lt, iI_le, iI_eq, lI_lt, lI_le, lI_eq, iI_lt0, iI_le0, iI_0lt, iI_0le, iI_eq0, iI_eq1, lI_lt0, lI_le0, lI_0lt, lI_0le, lI_eq0, ix_cl, ix_iff, upd_iI, updL_lI, lI_divF, lI_remF, iI_divF, iI_remF, em_eq, Int.not_lt, Int.not_le, true_implies, false_implies, and_true, true_and, not_true_eq_false, not_false_eq_true, true_or, or_true, or_false, false_or])); (conv => whnf))
      refine WQ_fr [5, 6, 7, 8, 9, 10] (mlW n ck st wh rg md wt num acc) [.ref 0, .int (iI a)] rfl rfl rfl rfl ?_
      refine c_Ml_actMend hB ha.1 ha.2 (fun hf => ?_) (fun hf k v h1 h2 h3 h4 => ?_)
      · rw [mdF_n hf] at h
        (repeat ((conv => whnf); simp (disch := omega) only [Int.cast_ofNat_Int, Int.reduceToNat, iI_tt, Int.toNat_natCast, iI_add, iI_sub, iI_mul, iI_neg, lI_add, lI_sub, lI_mul, lI_neg, i2l_, l2i_, iI_lt, iI_le, iI_eq, lI_lt, lI_le, lI_eq, iI_lt0, iI_le0, iI_0lt, iI_0le, iI_eq0, iI_eq1, lI_lt0, lI_le0, lI_0lt, lI_0le, lI_eq0, ix_cl, ix_iff, upd_iI, updL_lI, lI_divF, lI_remF, iI_divF, iI_remF, em_eq, Int.not_lt, Int.not_le, true_implies, false_implies, and_true, true_and, not_true_eq_false, not_false_eq_true, true_or, or_true, or_false, false_or])); (conv => whnf)
        repeat' ((first | (refine ⟨fun _ => ?_, fun hb => absurd hb (by omega)⟩) | (refine ⟨fun hb => absurd hb (by omega), fun _ => ?_⟩) | (refine ⟨by omega, ?_⟩) | (refine ⟨⟨by omega, (by (conv => whnf); exact trivial)⟩, ?_⟩) | (refine ⟨(Nat.le_of_ble_eq_true rfl), bWp_ok _ (by (conv => whnf); exact trivial), ?_⟩) | (refine ⟨fun _ => ?_, fun _ => ?_⟩) | fail) <;> ((repeat ((conv => whnf); simp (disch := omega) only [Int.cast_ofNat_Int, Int.reduceToNat, iI_tt, Int.toNat_natCast, iI_add, iI_sub, iI_mul, iI_neg, lI_add, lI_sub, lI_mul, lI_neg, i2l_, l2i_, iI_lt, iI_le, iI_eq, lI_lt, lI_le, lI_eq, iI_lt0, iI_le0, iI_0lt, iI_0le, iI_eq0, iI_eq1, lI_lt0, lI_le0, lI_0lt, lI_0le, lI_eq0, ix_cl, ix_iff, upd_iI, updL_lI, lI_divF, lI_remF, iI_divF, iI_remF, em_eq, Int.not_lt, Int.not_le, true_implies, false_implies, and_true, true_and, not_true_eq_false, not_false_eq_true, true_or, or_true, or_false, false_or])); (conv => whnf)))
        exact h
      · rw [mdF_s ⟨hf, k, v, h1, h2, h3, h4, rfl⟩] at h
        (repeat ((conv => whnf); simp (disch := omega) only [Int.cast_ofNat_Int, Int.reduceToNat, iI_tt, Int.toNat_natCast, iI_add, iI_sub, iI_mul, iI_neg, lI_add, lI_sub, lI_mul, lI_neg, i2l_, l2i_, iI_lt, iI_le, iI_eq, lI_lt, lI_le, lI_eq, iI_lt0, iI_le0, iI_0lt, iI_0le, iI_eq0, iI_eq1, lI_lt0, lI_le0, lI_0lt, lI_0le, lI_eq0, ix_cl, ix_iff, upd_iI, updL_lI, lI_divF, lI_remF, iI_divF, iI_remF, em_eq, Int.not_lt, Int.not_le, true_implies, false_implies, and_true, true_and, not_true_eq_false, not_false_eq_true, true_or, or_true, or_false, false_or])); (conv => whnf)
        repeat' ((first | (refine ⟨fun _ => ?_, fun hb => absurd hb (by omega)⟩) | (refine ⟨fun hb => absurd hb (by omega), fun _ => ?_⟩) | (refine ⟨by omega, ?_⟩) | (refine ⟨⟨by omega, (by (conv => whnf); exact trivial)⟩, ?_⟩) | (refine ⟨(Nat.le_of_ble_eq_true rfl), bWp_ok _ (by (conv => whnf); exact trivial), ?_⟩) | (refine ⟨fun _ => ?_, fun _ => ?_⟩) | fail) <;> ((repeat ((conv => whnf); simp (disch := omega) only [Int.cast_ofNat_Int, Int.reduceToNat, iI_tt, Int.toNat_natCast, iI_add, iI_sub, iI_mul, iI_neg, lI_add, lI_sub, lI_mul, lI_neg, i2l_, l2i_, iI_lt, iI_le, iI_eq, lI_lt, lI_le, lI_eq, iI_lt0, iI_le0, iI_0lt, iI_0le, iI_eq0, iI_eq1, lI_lt0, lI_le0, lI_0lt, lI_0le, lI_eq0, ix_cl, ix_iff, upd_iI, updL_lI, lI_divF, lI_remF, iI_divF, iI_remF, em_eq, Int.not_lt, Int.not_le, true_implies, false_implies, and_true, true_and, not_true_eq_false, not_false_eq_true, true_or, or_true, or_false, false_or])); (conv => whnf)))
        exact h
    · rw [if_neg (by decide), if_neg (by decide), if_neg (by decide)] at h
      refine methC (pf_Pg rfl) (tz_Pg rfl) rfl ?_
      refine run k_Pg_doStep [] 900 ?_
      (repeat ((conv => whnf); simp (disch := omega) only [Int.cast_ofNat_Int, Int.reduceToNat, iI_tt, Int.toNat_natCast, iI_add, iI_sub, iI_mul, iI_neg, lI_add, lI_sub, lI_mul, lI_neg, i2l_, l2i_, iI_lt, iI_le, iI_eq, lI_lt, lI_le, lI_eq, iI_lt0, iI_le0, iI_0lt, iI_0le, iI_eq0, iI_eq1, lI_lt0, lI_le0, lI_0lt, lI_0le, lI_eq0, ix_cl, ix_iff, upd_iI, updL_lI, lI_divF, lI_remF, iI_divF, iI_remF, em_eq, Int.not_lt, Int.not_le, true_implies, false_implies, and_true, true_and, not_true_eq_false, not_false_eq_true, true_or, or_true, or_false, false_or])); (conv => whnf)
      refine ⟨swK_cons (fun _ => ?_) (swK_cons (fun _ => ?_) (swK_cons (fun _ => ?_) (swK_cons (fun _ => ?_) (swK_cons (fun _ => ?_) (swK_cons (fun _ => ?_) (swK_cons (fun _ => ?_) (swK_nil))))))), fun hs => ?_⟩ <;> (try simp only [List.length_cons, List.length_nil] at hs) <;> first | (exfalso; omega) | ((repeat ((conv => whnf); simp (disch := omega) only [Int.cast_ofNat_Int, Int.reduceToNat, iI_tt, Int.toNat_natCast, iI_add, iI_sub, iI_mul, iI_neg, lI_add, lI_sub, lI_mul, lI_neg, i2l_, l2i_, iI_lt, iI_le, iI_eq, lI_lt, lI_le, lI_eq, iI_lt0, iI_le0, iI_0lt, iI_0le, iI_eq0, iI_eq1, lI_lt0, lI_le0, lI_0lt, lI_0le, lI_eq0, ix_cl, ix_iff, upd_iI, updL_lI, lI_divF, lI_remF, iI_divF, iI_remF, em_eq, Int.not_lt, Int.not_le, true_implies, false_implies, and_true, true_and, not_true_eq_false, not_false_eq_true, true_or, or_true, or_false, false_or])); (conv => whnf))
      exact h
