/-! THE REFERENCE: a sum is given -/
theorem lp_givesM {d mc ms : Nat} {t0 pm ik il ec eo fr tt tk vl tn sts ops opn tp ip ol : Int} {s dr kp ps rs stm op wi pu nb ou : Nat → Int} {f : Nat → Int32} {n ck st wh rg : Int} {md wt num acc : Nat → Int} {K : Option Value → PW → Prop} {KX : String → PW → Prop} {r bg E : Int} {MM : List (Int × Int)} {R : Sum Int (List Int)} (hP : PR2 MM op wi ops) (hMM : MM.length ≤ 500) (hq : QOk s n ck st wh rg md wt num acc)
    (f9 : ∀ w, R = .inl w → ∀ rs' tp', K (some (.int (iI w))) (mmW t0 (ctS s w) dr kp ps pm ik (rs') f il ec eo fr tt tk vl tn stm sts op wi ops opn (tp') pu ip nb ou ol)) : ∀ (M A B : List (Int × Int)) (σ : List Int) (rs : Nat → Int) (tp : Int), MM = A ++ (M ++ B) → E = (A.length : Int) + M.length → SRp s rs n md σ → σ.length ≤ 32 → SB wh σ → tp = 8 + (σ.length : Int) → evM st rg wh num M σ = some R →
    (∀ τ, R = .inr τ → ∀ rs' tp', SRp s rs' n md τ → SB wh τ → GO M_Mm_gives (d + 7) mc ms 41 [some (.ref 0), some (.int (iI r)), some (.int (iI bg)), some (.int (iI E))] [] (mmW t0 s dr kp ps pm ik (rs') f il ec eo fr tt tk vl tn stm sts op wi ops opn (tp') pu ip nb ou ol) K KX) →
    GO M_Mm_gives (d + 7) mc ms 9 [some (.ref 0), some (.int (iI r)), some (.int (iI bg)), some (.int (iI E)), some (.int (iI (A.length : Int)))] [] (mmW t0 s dr kp ps pm ik rs f il ec eo fr tt tk vl tn stm sts op wi ops opn tp pu ip nb ou ol) K KX := by
  intro M
  induction M with
  | nil =>
    intro A B σ rs tp hl hE hS h32 hb htp he t9
    cases he
    have fin := t9 σ rfl rs tp hS hb
    rw [List.length_nil] at hE
    have hA : A.length ≤ 500 := by
      have : MM.length = A.length + B.length := by rw [hl]; simp
      omega
    refine run k_Mm_gives [41] 900 ?_
    (repeat ((conv => whnf); simp (disch := omega) only [Int.cast_ofNat_Int, Int.reduceToNat, iI_tt, Int.toNat_natCast, iI_add, iI_sub, iI_mul, iI_neg, lI_add, lI_sub, lI_mul, lI_neg, i2l_, l2i_, iI_lt, iI_le, iI_eq, lI_lt, lI_le, lI_eq, iI_lt0, iI_le0, iI_0lt, iI_0le, iI_eq0, iI_eq1, lI_lt0, lI_le0, lI_0lt, lI_0le, lI_eq0, ix_cl, ix_iff, upd_iI, updL_lI, lI_divF, lI_remF, iI_divF, iI_remF, em_eq, Int.not_lt, Int.not_le, true_implies, false_implies, and_true, true_and, not_true_eq_false, not_false_eq_true, true_or, or_true, or_false, false_or])); (conv => whnf)
    (repeat ((conv => whnf); simp (disch := omega) only [Int.cast_ofNat_Int, Int.reduceToNat, iI_tt, Int.toNat_natCast, iI_add, iI_sub, iI_mul, iI_neg, lI_add, lI_sub, lI_mul, lI_neg, i2l_, l2i_, iI_lt, iI_le, iI_eq, lI_lt, lI_le, lI_eq, iI_lt0, iI_le0, iI_0lt, iI_0le, iI_eq0, iI_eq1, lI_lt0, lI_le0, lI_0lt, lI_0le, lI_eq0, ix_cl, ix_iff, upd_iI, updL_lI, lI_divF, lI_remF, iI_divF, iI_remF, em_eq, Int.not_lt, Int.not_le, true_implies, false_implies, and_true, true_and, not_true_eq_false, not_false_eq_true, true_or, or_true, or_false, false_or])); (conv => whnf)
    repeat' ((first | (refine ⟨fun _ => ?_, fun hb => absurd hb (by omega)⟩) | (refine ⟨fun hb => absurd hb (by omega), fun _ => ?_⟩) | (refine ⟨by omega, ?_⟩) | (refine ⟨⟨by omega, (by (conv => whnf); exact trivial)⟩, ?_⟩) | (refine ⟨(Nat.le_of_ble_eq_true rfl), bWp_ok _ (by (conv => whnf); exact trivial), ?_⟩) | (refine ⟨fun _ => ?_, fun _ => ?_⟩) | fail) <;> ((repeat ((conv => whnf); simp (disch := omega) only [Int.cast_ofNat_Int, Int.reduceToNat, iI_tt, Int.toNat_natCast, iI_add, iI_sub, iI_mul, iI_neg, lI_add, lI_sub, lI_mul, lI_neg, i2l_, l2i_, iI_lt, iI_le, iI_eq, lI_lt, lI_le, lI_eq, iI_lt0, iI_le0, iI_0lt, iI_0le, iI_eq0, iI_eq1, lI_lt0, lI_le0, lI_0lt, lI_0le, lI_eq0, ix_cl, ix_iff, upd_iI, updL_lI, lI_divF, lI_remF, iI_divF, iI_remF, em_eq, Int.not_lt, Int.not_le, true_implies, false_implies, and_true, true_and, not_true_eq_false, not_false_eq_true, true_or, or_true, or_false, false_or])); (conv => whnf)))
    all_goals try (exfalso; omega)
    exact GO_take 4 fin
  | cons x M ih =>
    intro A B σ rs tp hl hE hS h32 hb htp he t9
    have he' : bnS (stpM st rg wh num x σ) (evM st rg wh num M) = some R := he
    obtain ⟨hx, hlt⟩ := at_k (X := A) (y := x) (Z := M ++ B) hl
    have hk := hP.2 _ x hx
    have hlen : MM.length = A.length + (M.length + 1) + B.length := by
      rw [hl, List.length_append, List.length_append, List.length_cons]
      omega
    rw [List.length_cons] at hE
    cases e : stpM st rg wh num x σ with
    | none => rw [e] at he'; cases he'
    | some ρ =>
      rw [e] at he'
      refine run k_Mm_gives [9, 41] 900 ?_
      (repeat ((conv => whnf); simp (disch := omega) only [Int.cast_ofNat_Int, Int.reduceToNat, iI_tt, Int.toNat_natCast, iI_add, iI_sub, iI_mul, iI_neg, lI_add, lI_sub, lI_mul, lI_neg, i2l_, l2i_, iI_lt, iI_le, iI_eq, lI_lt, lI_le, lI_eq, iI_lt0, iI_le0, iI_0lt, iI_0le, iI_eq0, iI_eq1, lI_lt0, lI_le0, lI_0lt, lI_0le, lI_eq0, ix_cl, ix_iff, upd_iI, updL_lI, lI_divF, lI_remF, iI_divF, iI_remF, em_eq, Int.not_lt, Int.not_le, true_implies, false_implies, and_true, true_and, not_true_eq_false, not_false_eq_true, true_or, or_true, or_false, false_or])); (conv => whnf)
      (repeat ((conv => whnf); simp (disch := omega) only [Int.cast_ofNat_Int, Int.reduceToNat, iI_tt, Int.toNat_natCast, iI_add, iI_sub, iI_mul, iI_neg, lI_add, lI_sub, lI_mul, lI_neg, i2l_, l2i_, iI_lt, iI_le, iI_eq, lI_lt, lI_le, lI_eq, iI_lt0, iI_le0, iI_0lt, iI_0le, iI_eq0, iI_eq1, lI_lt0, lI_le0, lI_0lt, lI_0le, lI_eq0, ix_cl, ix_iff, upd_iI, updL_lI, lI_divF, lI_remF, iI_divF, iI_remF, em_eq, Int.not_lt, Int.not_le, true_implies, false_implies, and_true, true_and, not_true_eq_false, not_false_eq_true, true_or, or_true, or_false, false_or])); (conv => whnf)
      repeat' ((first | (refine ⟨fun _ => ?_, fun hb => absurd hb (by omega)⟩) | (refine ⟨fun hb => absurd hb (by omega), fun _ => ?_⟩) | (refine ⟨by omega, ?_⟩) | (refine ⟨⟨by omega, (by (conv => whnf); exact trivial)⟩, ?_⟩) | (refine ⟨(Nat.le_of_ble_eq_true rfl), bWp_ok _ (by (conv => whnf); exact trivial), ?_⟩) | (refine ⟨fun _ => ?_, fun _ => ?_⟩) | fail) <;> ((repeat ((conv => whnf); simp (disch := omega) only [Int.cast_ofNat_Int, Int.reduceToNat, iI_tt, Int.toNat_natCast, iI_add, iI_sub, iI_mul, iI_neg, lI_add, lI_sub, lI_mul, lI_neg, i2l_, l2i_, iI_lt, iI_le, iI_eq, lI_lt, lI_le, lI_eq, iI_lt0, iI_le0, iI_0lt, iI_0le, iI_eq0, iI_eq1, lI_lt0, lI_le0, lI_0lt, lI_0le, lI_eq0, ix_cl, ix_iff, upd_iI, updL_lI, lI_divF, lI_remF, iI_divF, iI_remF, em_eq, Int.not_lt, Int.not_le, true_implies, false_implies, and_true, true_and, not_true_eq_false, not_false_eq_true, true_or, or_true, or_false, false_or])); (conv => whnf)))
      all_goals try (exfalso; omega)
      refine c_Mm_stepE hq hS h32 hb htp e (by omega) hk (fun w hw h0 hwb rs' tp' => ?_) (fun τ hτ rs' hS' h32' hb' => ?_)
      · subst hw
        cases he'
        (repeat ((conv => whnf); simp (disch := omega) only [Int.cast_ofNat_Int, Int.reduceToNat, iI_tt, Int.toNat_natCast, iI_add, iI_sub, iI_mul, iI_neg, lI_add, lI_sub, lI_mul, lI_neg, i2l_, l2i_, iI_lt, iI_le, iI_eq, lI_lt, lI_le, lI_eq, iI_lt0, iI_le0, iI_0lt, iI_0le, iI_eq0, iI_eq1, lI_lt0, lI_le0, lI_0lt, lI_0le, lI_eq0, ix_cl, ix_iff, upd_iI, updL_lI, lI_divF, lI_remF, iI_divF, iI_remF, em_eq, Int.not_lt, Int.not_le, true_implies, false_implies, and_true, true_and, not_true_eq_false, not_false_eq_true, true_or, or_true, or_false, false_or])); (conv => whnf)
        repeat' ((first | (refine ⟨fun _ => ?_, fun hb => absurd hb (by omega)⟩) | (refine ⟨fun hb => absurd hb (by omega), fun _ => ?_⟩) | (refine ⟨by omega, ?_⟩) | (refine ⟨⟨by omega, (by (conv => whnf); exact trivial)⟩, ?_⟩) | (refine ⟨(Nat.le_of_ble_eq_true rfl), bWp_ok _ (by (conv => whnf); exact trivial), ?_⟩) | (refine ⟨fun _ => ?_, fun _ => ?_⟩) | fail) <;> ((repeat ((conv => whnf); simp (disch := omega) only [Int.cast_ofNat_Int, Int.reduceToNat, iI_tt, Int.toNat_natCast, iI_add, iI_sub, iI_mul, iI_neg, lI_add, lI_sub, lI_mul, lI_neg, i2l_, l2i_, iI_lt, iI_le, iI_eq, lI_lt, lI_le, lI_eq, iI_lt0, iI_le0, iI_0lt, iI_0le, iI_eq0, iI_eq1, lI_lt0, lI_le0, lI_0lt, lI_0le, lI_eq0, ix_cl, ix_iff, upd_iI, updL_lI, lI_divF, lI_remF, iI_divF, iI_remF, em_eq, Int.not_lt, Int.not_le, true_implies, false_implies, and_true, true_and, not_true_eq_false, not_false_eq_true, true_or, or_true, or_false, false_or])); (conv => whnf)))
        all_goals try (exfalso; omega)
        refine c_Mm_refuses (by omega) (by omega) ?_
        (repeat ((conv => whnf); simp (disch := omega) only [Int.cast_ofNat_Int, Int.reduceToNat, iI_tt, Int.toNat_natCast, iI_add, iI_sub, iI_mul, iI_neg, lI_add, lI_sub, lI_mul, lI_neg, i2l_, l2i_, iI_lt, iI_le, iI_eq, lI_lt, lI_le, lI_eq, iI_lt0, iI_le0, iI_0lt, iI_0le, iI_eq0, iI_eq1, lI_lt0, lI_le0, lI_0lt, lI_0le, lI_eq0, ix_cl, ix_iff, upd_iI, updL_lI, lI_divF, lI_remF, iI_divF, iI_remF, em_eq, Int.not_lt, Int.not_le, true_implies, false_implies, and_true, true_and, not_true_eq_false, not_false_eq_true, true_or, or_true, or_false, false_or])); (conv => whnf)
        exact f9 w rfl _ _
      · subst hτ
        have fin := ih (A ++ [x]) B τ rs' (8 + (τ.length : Int)) (by rw [hl, List.append_assoc]; rfl) (by rw [List.length_append, List.length_singleton]; omega) hS' h32' hb' rfl he' t9
        rw [show ((A ++ [x]).length : Int) = (A.length : Int) + 1 by rw [List.length_append, List.length_singleton]; omega] at fin
        (repeat ((conv => whnf); simp (disch := omega) only [Int.cast_ofNat_Int, Int.reduceToNat, iI_tt, Int.toNat_natCast, iI_add, iI_sub, iI_mul, iI_neg, lI_add, lI_sub, lI_mul, lI_neg, i2l_, l2i_, iI_lt, iI_le, iI_eq, lI_lt, lI_le, lI_eq, iI_lt0, iI_le0, iI_0lt, iI_0le, iI_eq0, iI_eq1, lI_lt0, lI_le0, lI_0lt, lI_0le, lI_eq0, ix_cl, ix_iff, upd_iI, updL_lI, lI_divF, lI_remF, iI_divF, iI_remF, em_eq, Int.not_lt, Int.not_le, true_implies, false_implies, and_true, true_and, not_true_eq_false, not_false_eq_true, true_or, or_true, or_false, false_or])); (conv => whnf)
        repeat' ((first | (refine ⟨fun _ => ?_, fun hb => absurd hb (by omega)⟩) | (refine ⟨fun hb => absurd hb (by omega), fun _ => ?_⟩) | (refine ⟨by omega, ?_⟩) | (refine ⟨⟨by omega, (by (conv => whnf); exact trivial)⟩, ?_⟩) | (refine ⟨(Nat.le_of_ble_eq_true rfl), bWp_ok _ (by (conv => whnf); exact trivial), ?_⟩) | (refine ⟨fun _ => ?_, fun _ => ?_⟩) | fail) <;> ((repeat ((conv => whnf); simp (disch := omega) only [Int.cast_ofNat_Int, Int.reduceToNat, iI_tt, Int.toNat_natCast, iI_add, iI_sub, iI_mul, iI_neg, lI_add, lI_sub, lI_mul, lI_neg, i2l_, l2i_, iI_lt, iI_le, iI_eq, lI_lt, lI_le, lI_eq, iI_lt0, iI_le0, iI_0lt, iI_0le, iI_eq0, iI_eq1, lI_lt0, lI_le0, lI_0lt, lI_0le, lI_eq0, ix_cl, ix_iff, upd_iI, updL_lI, lI_divF, lI_remF, iI_divF, iI_remF, em_eq, Int.not_lt, Int.not_le, true_implies, false_implies, and_true, true_and, not_true_eq_false, not_false_eq_true, true_or, or_true, or_false, false_or])); (conv => whnf)))
        all_goals try (exfalso; omega)
        exact GO_take 5 fin
theorem c_Mm_gives {d mc ms : Nat} {t0 pm ik il ec eo fr tt tk vl tn sts ops opn tp ip ol : Int} {s dr kp ps rs stm op wi pu nb ou : Nat → Int} {f : Nat → Int32} {n ck st wh rg : Int} {md wt num acc : Nat → Int} {K : Option Value → PW → Prop} {KX : String → PW → Prop} {r : Int} {MM A M B : List (Int × Int)} {v : Sum Int Int} (hP : PR2 MM op wi ops) (hMM : MM.length ≤ 500) (hq : QOk s n ck st wh rg md wt num acc) (h0 : 0 ≤ r) (h8 : r < 8) (hl : MM = A ++ (M ++ B)) (he : evM st rg wh num M [] = some (vS v [])) (hv : ∀ w, v = .inl w → w = 1 ∨ w = 2)
    (f9 : ∀ w, v = .inl w → ∀ s' rs' tp', RR s' n ck st md num (bk acc w.toNat) → K (some (.int (iI w))) (mmW t0 (s') dr kp ps pm ik (rs') f il ec eo fr tt tk vl tn stm sts op wi ops opn (tp') pu ip nb ou ol))
    (t9 : ∀ x, v = .inr x → ∀ s' rs' tp', RR s' n ck st md (upI num r.toNat x) (finA rg x acc) → K (some (.int (iI 0))) (mmW t0 (s') dr kp ps pm ik (rs') f il ec eo fr tt tk vl tn stm sts op wi ops opn (tp') pu ip nb ou ol)) : WQ M_Mm_gives (d + 7) mc ms [.ref 0, .int (iI r), .int (iI (A.length : Int)), .int (iI ((A.length : Int) + M.length))] (mmW t0 s dr kp ps pm ik rs f il ec eo fr tt tk vl tn stm sts op wi ops opn tp pu ip nb ou ol) K KX := by
  have h6 := hq.n6
  have fin := lp_givesM (d := d) (mc := mc) (ms := ms) (KX := KX) (K := K) (r := r) (bg := (A.length : Int)) (E := (A.length : Int) + M.length) (R := vS v []) (rs := rs) (tp := tp) hP hMM hq (fun w hw rs' tp' => by
      cases v with
      | inr x => cases hw
      | inl w2 =>
        have e9 : w2 = w := by
          cases hw
          rfl
        subst e9
        have := hv w2 rfl
        exact f9 w2 rfl _ rs' tp' (RR_ct (by omega) (by omega) hq.1)) M A B [] rs 8 hl rfl trivial (by decide) SB.nil rfl he (fun τ hτ rs' tp' hS hb => by
      cases v with
      | inl w2 => cases hτ
      | inr x =>
        cases hτ
        have hx : nin x wh = x := hb x (by simp)
        refine run k_Mm_gives [] 900 ?_
        (repeat ((conv => whnf); simp (disch := omega) only [Int.cast_ofNat_Int, Int.reduceToNat, iI_tt, Int.toNat_natCast, iI_add, iI_sub, iI_mul, iI_neg, lI_add, lI_sub, lI_mul, lI_neg, i2l_, l2i_, iI_lt, iI_le, iI_eq, lI_lt, lI_le, lI_eq, iI_lt0, iI_le0, iI_0lt, iI_0le, iI_eq0, iI_eq1, lI_lt0, lI_le0, lI_0lt, lI_0le, lI_eq0, ix_cl, ix_iff, upd_iI, updL_lI, lI_divF, lI_remF, iI_divF, iI_remF, em_eq, Int.not_lt, Int.not_le, true_implies, false_implies, and_true, true_and, not_true_eq_false, not_false_eq_true, true_or, or_true, or_false, false_or])); (conv => whnf)
        refine c_Mm_copiesRow hq.rb hq.rm (by omega) (by omega) h0 (by omega) (fun s2 rs2 hs2 hrd => ?_)
        have hr2 : RowIs s2 rs2 r n md x := fun k hk => by
          rw [hrd k hk]
          exact hS.1 k hk
        (repeat ((conv => whnf); simp (disch := omega) only [Int.cast_ofNat_Int, Int.reduceToNat, iI_tt, Int.toNat_natCast, iI_add, iI_sub, iI_mul, iI_neg, lI_add, lI_sub, lI_mul, lI_neg, i2l_, l2i_, iI_lt, iI_le, iI_eq, lI_lt, lI_le, lI_eq, iI_lt0, iI_le0, iI_0lt, iI_0le, iI_eq0, iI_eq1, lI_lt0, lI_le0, lI_0lt, lI_0le, lI_eq0, ix_cl, ix_iff, upd_iI, updL_lI, lI_divF, lI_remF, iI_divF, iI_remF, em_eq, Int.not_lt, Int.not_le, true_implies, false_implies, and_true, true_and, not_true_eq_false, not_false_eq_true, true_or, or_true, or_false, false_or])); (conv => whnf)
        refine c_Mm_acts (hs2.rb (by omega) hq.rb) hq.rm hq.cop h0 (by omega) hr2 ?_
        (repeat ((conv => whnf); simp (disch := omega) only [Int.cast_ofNat_Int, Int.reduceToNat, iI_tt, Int.toNat_natCast, iI_add, iI_sub, iI_mul, iI_neg, lI_add, lI_sub, lI_mul, lI_neg, i2l_, l2i_, iI_lt, iI_le, iI_eq, lI_lt, lI_le, lI_eq, iI_lt0, iI_le0, iI_0lt, iI_0le, iI_eq0, iI_eq1, lI_lt0, lI_le0, lI_0lt, lI_0le, lI_eq0, ix_cl, ix_iff, upd_iI, updL_lI, lI_divF, lI_remF, iI_divF, iI_remF, em_eq, Int.not_lt, Int.not_le, true_implies, false_implies, and_true, true_and, not_true_eq_false, not_false_eq_true, true_or, or_true, or_false, false_or])); (conv => whnf)
        rw [hq.wh, hq.rg]
        have h1 := RR_fn (rg := rg) (x := nin x wh) (RR_put (by omega) h0 h8 (fun k hk => hq.dvd hk) hs2 hr2 hq.1)
        rw [hx] at h1 ⊢
        exact t9 x rfl _ _ _ h1)
  refine methC (pf_Mm rfl) (tz_Mm rfl) rfl ?_
  refine run k_Mm_gives [9, 41] 900 ?_
  (repeat ((conv => whnf); simp (disch := omega) only [Int.cast_ofNat_Int, Int.reduceToNat, iI_tt, Int.toNat_natCast, iI_add, iI_sub, iI_mul, iI_neg, lI_add, lI_sub, lI_mul, lI_neg, i2l_, l2i_, iI_lt, iI_le, iI_eq, lI_lt, lI_le, lI_eq, iI_lt0, iI_le0, iI_0lt, iI_0le, iI_eq0, iI_eq1, lI_lt0, lI_le0, lI_0lt, lI_0le, lI_eq0, ix_cl, ix_iff, upd_iI, updL_lI, lI_divF, lI_remF, iI_divF, iI_remF, em_eq, Int.not_lt, Int.not_le, true_implies, false_implies, and_true, true_and, not_true_eq_false, not_false_eq_true, true_or, or_true, or_false, false_or])); (conv => whnf)
  exact fin
