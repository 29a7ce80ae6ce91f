/-! THE LAW'S TEXT -/
def prF : Nat → Int := upI (upI (upI (upI (upI (upI (upI (upI (upI (upI (upI (upI (upI z0 0 2) 1 3) 2 5) 3 7) 4 11) 5 13) 6 17) 7 19) 8 23) 9 29) 10 31) 11 37) 12 41
def prC : va_E := .inl (1, 13, .inl (fun j => iI (prF j)))
theorem prF_b (j : Nat) : 0 ≤ prF j ∧ prF j ≤ 41 := by
  unfold prF upI z0
  (repeat' split) <;> exact ⟨by decide, by decide⟩
def flP (ps : List Int) : List Int := ps.flatMap (fun p => 32 :: deL p)
theorem flP_s (ps : List Int) (p : Int) : flP (ps ++ [p]) = flP ps ++ [32] ++ deL p := by
  unfold flP
  simp
def reach : Nat → List (List Int × Int)
  | 0 => [([], 0)]
  | i + 1 => (reach i).flatMap (fun x => (if i = 0 then [0, 1, 2] else [1, 2]).map (fun z => (x.1 ++ [prF (x.2 + z).toNat], x.2 + z)))
theorem reach_s {i : Nat} {ps : List Int} {a z : Int} (h : (ps, a) ∈ reach i) (h0 : (if i = 0 then 0 else 1) ≤ z) (h2 : z ≤ 2) : (ps ++ [prF (a + z).toNat], a + z) ∈ reach (i + 1) := by
  refine List.mem_flatMap.mpr ⟨(ps, a), h, List.mem_map.mpr ⟨z, ?_, rfl⟩⟩
  by_cases e : i = 0
  · rw [if_pos e] at h0 ⊢
    have hc : z = 0 ∨ z = 1 ∨ z = 2 := by omega
    rcases hc with rfl | rfl | rfl <;> decide
  · rw [if_neg e] at h0 ⊢
    have hc : z = 1 ∨ z = 2 := by omega
    rcases hc with rfl | rfl <;> decide
theorem reach_fin : ∀ i : Fin 6, ∀ x ∈ reach i.val, (0 ≤ x.2 ∧ x.2 ≤ 2 * i.val) ∧ 2 * i.val ≤ (flP x.1).length ∧ (flP x.1).length ≤ 3 * i.val := by decide +kernel
theorem reach_b {i : Int} {ps : List Int} {a : Int} (i0 : 0 ≤ i) (i5 : i ≤ 5) (h : (ps, a) ∈ reach i.toNat) : (0 ≤ a ∧ a ≤ 2 * i) ∧ 2 * i ≤ (flP ps).length ∧ (flP ps).length ≤ 3 * i := by
  have h9 := reach_fin ⟨i.toNat, by omega⟩ (ps, a) h
  simp only at h9
  omega
theorem hw_set {gI : Nat → Int} : ∀ (cn ml : Int) (g : Nat → Int), bW (1 + [byt 22 gI, prC].length) (uW 0 cn ml ([byt 22 gI, prC].set 0 (byt 22 g))) := fun cn ml g => bWp_ok _ (by
  (conv => whnf)
  exact trivial)
theorem len_set {gI : Nat → Int} {N k : Nat} {bt : PW} {g : Nat → Int} (h : SBs 22 0 [byt 22 gI, prC] N k bt g) : 2 ≤ bt.length := by
  obtain ⟨-, ⟨-, -, rfl⟩ | ⟨-, -, -, g0, rfl⟩⟩ := h
  · exact Nat.le_refl 2
  · exact (by decide : 2 ≤ 3)
theorem pr_set {gI : Nat → Int} {N k k' : Nat} {cn ml : Int} {bt : PW} {g : Nat → Int} (h : SBs 22 0 [byt 22 gI, prC] N k bt g) : gW (uW k' cn ml bt) 2 = some (.inl (1, 13, .inl (fun j => iI (prF j)))) := by
  obtain ⟨-, ⟨-, -, rfl⟩ | ⟨-, -, -, g0, rfl⟩⟩ := h <;> rfl
theorem lp_set {d L : Nat} {xs : Nat → Int32} {K : Option Value → PW → Prop} {KX : String → PW → Prop} {many : Int} {gI : Nat → Int} (hL : L ≤ 1000) (m3 : 3 ≤ many) (m5 : many ≤ 5)
    (hend : ∀ (ps : List Int) (a : Int) (N k mc ms : Nat) (bt : PW) (g : Nat → Int) (cn ml : Int), (ps, a) ∈ reach many.toNat → SBs 22 0 [byt 22 gI, prC] N k bt g → (N = 22 ∨ N = 46) → OW (tx1008 ++ flP ps) g cn → cn ≤ N → Bud N mc ms → GOn 0 (gS L xs) M_Lw_setup (d + 9) mc ms 148 [some (.ref 3300), some (.ref 0), some (.ref 2)] [] (uW k cn ml bt) K KX) :
    ∀ (q : Nat) (i a : Int) (ps : List Int) (N k mc ms : Nat) (bt : PW) (g : Nat → Int) (cn ml : Int), i + q = many → 0 ≤ i → (ps, a) ∈ reach i.toNat → SBs 22 0 [byt 22 gI, prC] N k bt g → (N = 22 ∨ N = 46) → OW (tx1008 ++ flP ps) g cn → cn ≤ N → Bud N mc ms → GOn 0 (gS L xs) M_Lw_setup (d + 9) mc ms 98 [some (.ref 3300), some (.ref 0), some (.ref 2), some (.int (iI many)), some (.int (iI a)), some (.int (iI i))] [] (uW k cn ml bt) K KX := by
  intro q
  induction q with
  | zero =>
    intro i a ps N k mc ms bt g cn ml hi i0 hR hS hN hO hcN hmc
    have e1 : i = many := by omega
    subst e1
    have fin := hend ps a N k mc ms bt g cn ml hR hS hN hO hcN hmc
    refine runP (k_Lw_setup L xs) [148] 900 ?_
    (repeat ((conv => whnf); simp (disch := omega) only [Int.cast_ofNat_Int, Int.reduceToNat, iI_tt, Int.toNat_natCast, iI_add, iI_sub, iI_mul, iI_neg, lI_add, lI_sub, lI_mul, lI_neg, i2l_, l2i_, iI_lt, iI_le, iI_eq, lI_lt, lI_le, lI_eq, iI_lt0, iI_le0, iI_0lt, iI_0le, iI_eq0, iI_eq1, lI_lt0, lI_le0, lI_0lt, lI_0le, lI_eq0, ix_cl, ix_iff, upd_iI, updL_lI, lI_divF, lI_remF, iI_divF, iI_remF, em_eq, Int.not_lt, Int.not_le, true_implies, false_implies, and_true, true_and, not_true_eq_false, not_false_eq_true, true_or, or_true, or_false, false_or])); (conv => whnf)
    repeat' ((first | (refine ⟨fun _ => ?_, fun hb => absurd hb (by omega)⟩) | (refine ⟨fun hb => absurd hb (by omega), fun _ => ?_⟩) | (refine ⟨by omega, ?_⟩) | (refine ⟨⟨by omega, (by (conv => whnf); exact trivial)⟩, ?_⟩) | (refine ⟨(Nat.le_of_ble_eq_true rfl), bWp_ok _ (by (conv => whnf); exact trivial), ?_⟩) | (refine ⟨fun _ => ?_, fun _ => ?_⟩) | fail) <;> ((repeat ((conv => whnf); simp (disch := omega) only [Int.cast_ofNat_Int, Int.reduceToNat, iI_tt, Int.toNat_natCast, iI_add, iI_sub, iI_mul, iI_neg, lI_add, lI_sub, lI_mul, lI_neg, i2l_, l2i_, iI_lt, iI_le, iI_eq, lI_lt, lI_le, lI_eq, iI_lt0, iI_le0, iI_0lt, iI_0le, iI_eq0, iI_eq1, lI_lt0, lI_le0, lI_0lt, lI_0le, lI_eq0, ix_cl, ix_iff, upd_iI, updL_lI, lI_divF, lI_remF, iI_divF, iI_remF, em_eq, Int.not_lt, Int.not_le, true_implies, false_implies, and_true, true_and, not_true_eq_false, not_false_eq_true, true_or, or_true, or_false, false_or])); (conv => whnf)))
    all_goals try (exfalso; omega)
    exact GOn_take 3 fin
  | succ q ih =>
    intro i a ps N k mc ms bt g cn ml hi i0 hR hS hN hO hcN hmc
    have hb := reach_b i0 (by omega) hR
    have hcn : cn = 6 + (flP ps).length := by
      have := hO.1
      rw [List.length_append] at this
      exact this
    have hlen := len_set hS
    have hU : 3 ≤ (uW k cn ml bt).length := by
      rw [uW_len]
      omega
    have hls : ∀ z : Int, bLo (uW k cn ml bt).length [some (.ref 3300), some (.ref 0), some (.ref 2), some (.int (iI many)), some (.int (iI z)), some (.int (iI i))] := fun z => ⟨Or.inr (by decide), Or.inl (Nat.lt_of_lt_of_le (by decide : 0 < 3) hU), Or.inl (Nat.lt_of_lt_of_le (by decide : 2 < 3) hU), trivial, trivial, trivial, trivial⟩
    have step : ∀ z : Int, (if i.toNat = 0 then 0 else 1) ≤ z → z ≤ 2 → GOn 0 (gS L xs) M_Lw_setup (d + 9) mc ms 128 [some (.ref 3300), some (.ref 0), some (.ref 2), some (.int (iI many)), some (.int (iI (a + z))), some (.int (iI i))] [] (uW k cn ml bt) K KX := by
      intro z h0 h2
      have hR2 := reach_s hR h0 h2
      have hz0 : 0 ≤ z := by
        have : (0 : Int) ≤ (if i.toNat = 0 then 0 else 1) := by split <;> decide
        omega
      have hpb := prF_b (a + z).toNat
      rw [show i.toNat + 1 = (i + 1).toNat by omega] at hR2
      refine runP (k_Lw_setup L xs) [98] 900 ?_
      (repeat ((conv => whnf); simp (disch := omega) only [Int.cast_ofNat_Int, Int.reduceToNat, iI_tt, Int.toNat_natCast, iI_add, iI_sub, iI_mul, iI_neg, lI_add, lI_sub, lI_mul, lI_neg, i2l_, l2i_, iI_lt, iI_le, iI_eq, lI_lt, lI_le, lI_eq, iI_lt0, iI_le0, iI_0lt, iI_0le, iI_eq0, iI_eq1, lI_lt0, lI_le0, lI_0lt, lI_0le, lI_eq0, ix_cl, ix_iff, upd_iI, updL_lI, lI_divF, lI_remF, iI_divF, iI_remF, em_eq, Int.not_lt, Int.not_le, true_implies, false_implies, and_true, true_and, not_true_eq_false, not_false_eq_true, true_or, or_true, or_false, false_or])); (conv => whnf)
      refine u_app (k0 := 0) (bt0 := [byt 22 gI, prC]) (APP_C (d := d + 3) (c := 32) (by decide) (by decide)) rfl (show 0 < 2 from by decide) (Nat.le_refl 2) (fun _ => hw_set) hS hN hO hcN (by rw [List.length_singleton]; omega) hmc ⟨Or.inr (by decide), Or.inl (by decide), Or.inl (by decide), trivial, trivial, trivial, trivial⟩ trivial (fun N2 k2 bt2 g2 mc2 ms2 hS2 hN2 hO2 hcN2 hmc2 => ?_)
      have hl2 := deL_len (v := prF (a + z).toNat)
      have key : ∀ (N3 k3 : Nat) (bt3 : PW) (g3 : Nat → Int) (mc3 ms3 : Nat), SBs 22 0 [byt 22 gI, prC] N3 k3 bt3 g3 → (N3 = 22 ∨ N3 = 46) → OW (tx1008 ++ flP ps ++ [32] ++ deL (prF (a + z).toNat)) g3 (cn + ([32] : List Int).length + (deL (prF (a + z).toNat)).length) → cn + ([32] : List Int).length + ((deL (prF (a + z).toNat)).length : Int) ≤ N3 → Bud N3 mc3 ms3 → GOn 0 (gS L xs) M_Lw_setup (d + 9) mc3 ms3 98 [some (.ref 3300), some (.ref 0), some (.ref 2), some (.int (iI many)), some (.int (iI (a + z))), some (.int (iI (i + 1)))] [] (uW k3 (cn + ([32] : List Int).length + (deL (prF (a + z).toNat)).length) ml bt3) K KX := by
        intro N3 k3 bt3 g3 mc3 ms3 h1 h2 h3 h4 h5
        refine ih (i + 1) (a + z) (ps ++ [prF (a + z).toNat]) N3 k3 mc3 ms3 bt3 g3 _ ml (by omega) (by omega) hR2 h1 h2 ?_ h4 h5
        rw [flP_s, ← List.append_assoc, ← List.append_assoc]
        exact h3
      (repeat ((conv => whnf); simp (disch := omega) only [Int.cast_ofNat_Int, Int.reduceToNat, iI_tt, Int.toNat_natCast, iI_add, iI_sub, iI_mul, iI_neg, lI_add, lI_sub, lI_mul, lI_neg, i2l_, l2i_, iI_lt, iI_le, iI_eq, lI_lt, lI_le, lI_eq, iI_lt0, iI_le0, iI_0lt, iI_0le, iI_eq0, iI_eq1, lI_lt0, lI_le0, lI_0lt, lI_0le, lI_eq0, ix_cl, ix_iff, upd_iI, updL_lI, lI_divF, lI_remF, iI_divF, iI_remF, em_eq, Int.not_lt, Int.not_le, true_implies, false_implies, and_true, true_and, not_true_eq_false, not_false_eq_true, true_or, or_true, or_false, false_or])); (conv => whnf)
      rw [pr_set hS2]
      (repeat ((conv => whnf); simp (disch := omega) only [Int.cast_ofNat_Int, Int.reduceToNat, iI_tt, Int.toNat_natCast, iI_add, iI_sub, iI_mul, iI_neg, lI_add, lI_sub, lI_mul, lI_neg, i2l_, l2i_, iI_lt, iI_le, iI_eq, lI_lt, lI_le, lI_eq, iI_lt0, iI_le0, iI_0lt, iI_0le, iI_eq0, iI_eq1, lI_lt0, lI_le0, lI_0lt, lI_0le, lI_eq0, ix_cl, ix_iff, upd_iI, updL_lI, lI_divF, lI_remF, iI_divF, iI_remF, em_eq, Int.not_lt, Int.not_le, true_implies, false_implies, and_true, true_and, not_true_eq_false, not_false_eq_true, true_or, or_true, or_false, false_or])); (conv => whnf)
      repeat' ((first | (refine ⟨fun _ => ?_, fun hb => absurd hb (by omega)⟩) | (refine ⟨fun hb => absurd hb (by omega), fun _ => ?_⟩) | (refine ⟨by omega, ?_⟩) | (refine ⟨⟨by omega, (by (conv => whnf); exact trivial)⟩, ?_⟩) | (refine ⟨(Nat.le_of_ble_eq_true rfl), bWp_ok _ (by (conv => whnf); exact trivial), ?_⟩) | (refine ⟨fun _ => ?_, fun _ => ?_⟩) | fail) <;> ((repeat ((conv => whnf); simp (disch := omega) only [Int.cast_ofNat_Int, Int.reduceToNat, iI_tt, Int.toNat_natCast, iI_add, iI_sub, iI_mul, iI_neg, lI_add, lI_sub, lI_mul, lI_neg, i2l_, l2i_, iI_lt, iI_le, iI_eq, lI_lt, lI_le, lI_eq, iI_lt0, iI_le0, iI_0lt, iI_0le, iI_eq0, iI_eq1, lI_lt0, lI_le0, lI_0lt, lI_0le, lI_eq0, ix_cl, ix_iff, upd_iI, updL_lI, lI_divF, lI_remF, iI_divF, iI_remF, em_eq, Int.not_lt, Int.not_le, true_implies, false_implies, and_true, true_and, not_true_eq_false, not_false_eq_true, true_or, or_true, or_false, false_or])); (conv => whnf)))
      refine u_app (k0 := 0) (bt0 := [byt 22 gI, prC]) (APP_I (d := d + 3) (v := prF (a + z).toNat) ⟨by omega, by omega⟩) rfl (show 0 < 2 from by decide) (Nat.le_refl 2) (fun _ => hw_set) hS2 hN2 hO2 hcN2 (by simp only [List.length_singleton]; omega) hmc2 ⟨Or.inr (by decide), Or.inl (by decide), Or.inl (by decide), trivial, trivial, trivial, trivial⟩ trivial (fun N3 k3 bt3 g3 mc3 ms3 h1 h2 h3 h4 h5 => ?_)
      (repeat ((conv => whnf); simp (disch := omega) only [Int.cast_ofNat_Int, Int.reduceToNat, iI_tt, Int.toNat_natCast, iI_add, iI_sub, iI_mul, iI_neg, lI_add, lI_sub, lI_mul, lI_neg, i2l_, l2i_, iI_lt, iI_le, iI_eq, lI_lt, lI_le, lI_eq, iI_lt0, iI_le0, iI_0lt, iI_0le, iI_eq0, iI_eq1, lI_lt0, lI_le0, lI_0lt, lI_0le, lI_eq0, ix_cl, ix_iff, upd_iI, updL_lI, lI_divF, lI_remF, iI_divF, iI_remF, em_eq, Int.not_lt, Int.not_le, true_implies, false_implies, and_true, true_and, not_true_eq_false, not_false_eq_true, true_or, or_true, or_false, false_or])); (conv => whnf)
      repeat' ((first | (refine ⟨fun _ => ?_, fun hb => absurd hb (by omega)⟩) | (refine ⟨fun hb => absurd hb (by omega), fun _ => ?_⟩) | (refine ⟨by omega, ?_⟩) | (refine ⟨⟨by omega, (by (conv => whnf); exact trivial)⟩, ?_⟩) | (refine ⟨(Nat.le_of_ble_eq_true rfl), bWp_ok _ (by (conv => whnf); exact trivial), ?_⟩) | (refine ⟨fun _ => ?_, fun _ => ?_⟩) | fail) <;> ((repeat ((conv => whnf); simp (disch := omega) only [Int.cast_ofNat_Int, Int.reduceToNat, iI_tt, Int.toNat_natCast, iI_add, iI_sub, iI_mul, iI_neg, lI_add, lI_sub, lI_mul, lI_neg, i2l_, l2i_, iI_lt, iI_le, iI_eq, lI_lt, lI_le, lI_eq, iI_lt0, iI_le0, iI_0lt, iI_0le, iI_eq0, iI_eq1, lI_lt0, lI_le0, lI_0lt, lI_0le, lI_eq0, ix_cl, ix_iff, upd_iI, updL_lI, lI_divF, lI_remF, iI_divF, iI_remF, em_eq, Int.not_lt, Int.not_le, true_implies, false_implies, and_true, true_and, not_true_eq_false, not_false_eq_true, true_or, or_true, or_false, false_or])); (conv => whnf)))
      exact key N3 k3 bt3 g3 mc3 ms3 h1 h2 h3 h4 h5
    refine runP (k_Lw_setup L xs) [128] 900 ?_
    by_cases e0 : i = 0
    · (repeat ((conv => whnf); simp (disch := omega) only [Int.cast_ofNat_Int, Int.reduceToNat, iI_tt, Int.toNat_natCast, iI_add, iI_sub, iI_mul, iI_neg, lI_add, lI_sub, lI_mul, lI_neg, i2l_, l2i_, iI_lt, iI_le, iI_eq, lI_lt, lI_le, lI_eq, iI_lt0, iI_le0, iI_0lt, iI_0le, iI_eq0, iI_eq1, lI_lt0, lI_le0, lI_0lt, lI_0le, lI_eq0, ix_cl, ix_iff, upd_iI, updL_lI, lI_divF, lI_remF, iI_divF, iI_remF, em_eq, Int.not_lt, Int.not_le, true_implies, false_implies, and_true, true_and, not_true_eq_false, not_false_eq_true, true_or, or_true, or_false, false_or])); (conv => whnf)
      repeat' ((first | (refine ⟨fun _ => ?_, fun hb => absurd hb (by omega)⟩) | (refine ⟨fun hb => absurd hb (by omega), fun _ => ?_⟩) | (refine ⟨by omega, ?_⟩) | (refine ⟨⟨by omega, (by (conv => whnf); exact trivial)⟩, ?_⟩) | (refine ⟨(Nat.le_of_ble_eq_true rfl), bWp_ok _ (by (conv => whnf); exact trivial), ?_⟩) | (refine ⟨fun _ => ?_, fun _ => ?_⟩) | fail) <;> ((repeat ((conv => whnf); simp (disch := omega) only [Int.cast_ofNat_Int, Int.reduceToNat, iI_tt, Int.toNat_natCast, iI_add, iI_sub, iI_mul, iI_neg, lI_add, lI_sub, lI_mul, lI_neg, i2l_, l2i_, iI_lt, iI_le, iI_eq, lI_lt, lI_le, lI_eq, iI_lt0, iI_le0, iI_0lt, iI_0le, iI_eq0, iI_eq1, lI_lt0, lI_le0, lI_0lt, lI_0le, lI_eq0, ix_cl, ix_iff, upd_iI, updL_lI, lI_divF, lI_remF, iI_divF, iI_remF, em_eq, Int.not_lt, Int.not_le, true_implies, false_implies, and_true, true_and, not_true_eq_false, not_false_eq_true, true_or, or_true, or_false, false_or])); (conv => whnf)))
      all_goals try (exfalso; omega)
      refine c_Lw_draw hL (by omega) (by omega) (by decide) (by decide) (by decide) (fun z h0 h2 => ?_)
      refine ⟨⟨hls a, trivial, trivial⟩, ?_⟩
      (repeat ((conv => whnf); simp (disch := omega) only [Int.cast_ofNat_Int, Int.reduceToNat, iI_tt, Int.toNat_natCast, iI_add, iI_sub, iI_mul, iI_neg, lI_add, lI_sub, lI_mul, lI_neg, i2l_, l2i_, iI_lt, iI_le, iI_eq, lI_lt, lI_le, lI_eq, iI_lt0, iI_le0, iI_0lt, iI_0le, iI_eq0, iI_eq1, lI_lt0, lI_le0, lI_0lt, lI_0le, lI_eq0, ix_cl, ix_iff, upd_iI, updL_lI, lI_divF, lI_remF, iI_divF, iI_remF, em_eq, Int.not_lt, Int.not_le, true_implies, false_implies, and_true, true_and, not_true_eq_false, not_false_eq_true, true_or, or_true, or_false, false_or])); (conv => whnf)
      repeat' ((first | (refine ⟨fun _ => ?_, fun hb => absurd hb (by omega)⟩) | (refine ⟨fun hb => absurd hb (by omega), fun _ => ?_⟩) | (refine ⟨by omega, ?_⟩) | (refine ⟨⟨by omega, (by (conv => whnf); exact trivial)⟩, ?_⟩) | (refine ⟨(Nat.le_of_ble_eq_true rfl), bWp_ok _ (by (conv => whnf); exact trivial), ?_⟩) | (refine ⟨fun _ => ?_, fun _ => ?_⟩) | fail) <;> ((repeat ((conv => whnf); simp (disch := omega) only [Int.cast_ofNat_Int, Int.reduceToNat, iI_tt, Int.toNat_natCast, iI_add, iI_sub, iI_mul, iI_neg, lI_add, lI_sub, lI_mul, lI_neg, i2l_, l2i_, iI_lt, iI_le, iI_eq, lI_lt, lI_le, lI_eq, iI_lt0, iI_le0, iI_0lt, iI_0le, iI_eq0, iI_eq1, lI_lt0, lI_le0, lI_0lt, lI_0le, lI_eq0, ix_cl, ix_iff, upd_iI, updL_lI, lI_divF, lI_remF, iI_divF, iI_remF, em_eq, Int.not_lt, Int.not_le, true_implies, false_implies, and_true, true_and, not_true_eq_false, not_false_eq_true, true_or, or_true, or_false, false_or])); (conv => whnf)))
      exact step z (by rw [if_pos (by omega)]; exact h0) h2
    · (repeat ((conv => whnf); simp (disch := omega) only [Int.cast_ofNat_Int, Int.reduceToNat, iI_tt, Int.toNat_natCast, iI_add, iI_sub, iI_mul, iI_neg, lI_add, lI_sub, lI_mul, lI_neg, i2l_, l2i_, iI_lt, iI_le, iI_eq, lI_lt, lI_le, lI_eq, iI_lt0, iI_le0, iI_0lt, iI_0le, iI_eq0, iI_eq1, lI_lt0, lI_le0, lI_0lt, lI_0le, lI_eq0, ix_cl, ix_iff, upd_iI, updL_lI, lI_divF, lI_remF, iI_divF, iI_remF, em_eq, Int.not_lt, Int.not_le, true_implies, false_implies, and_true, true_and, not_true_eq_false, not_false_eq_true, true_or, or_true, or_false, false_or])); (conv => whnf)
      repeat' ((first | (refine ⟨fun _ => ?_, fun hb => absurd hb (by omega)⟩) | (refine ⟨fun hb => absurd hb (by omega), fun _ => ?_⟩) | (refine ⟨by omega, ?_⟩) | (refine ⟨⟨by omega, (by (conv => whnf); exact trivial)⟩, ?_⟩) | (refine ⟨(Nat.le_of_ble_eq_true rfl), bWp_ok _ (by (conv => whnf); exact trivial), ?_⟩) | (refine ⟨fun _ => ?_, fun _ => ?_⟩) | fail) <;> ((repeat ((conv => whnf); simp (disch := omega) only [Int.cast_ofNat_Int, Int.reduceToNat, iI_tt, Int.toNat_natCast, iI_add, iI_sub, iI_mul, iI_neg, lI_add, lI_sub, lI_mul, lI_neg, i2l_, l2i_, iI_lt, iI_le, iI_eq, lI_lt, lI_le, lI_eq, iI_lt0, iI_le0, iI_0lt, iI_0le, iI_eq0, iI_eq1, lI_lt0, lI_le0, lI_0lt, lI_0le, lI_eq0, ix_cl, ix_iff, upd_iI, updL_lI, lI_divF, lI_remF, iI_divF, iI_remF, em_eq, Int.not_lt, Int.not_le, true_implies, false_implies, and_true, true_and, not_true_eq_false, not_false_eq_true, true_or, or_true, or_false, false_or])); (conv => whnf)))
      all_goals try (exfalso; omega)
      refine c_Lw_draw hL (by omega) (by omega) (by decide) (by decide) (by decide) (fun z h0 h2 => ?_)
      refine ⟨⟨hls a, trivial, trivial⟩, ?_⟩
      (repeat ((conv => whnf); simp (disch := omega) only [Int.cast_ofNat_Int, Int.reduceToNat, iI_tt, Int.toNat_natCast, iI_add, iI_sub, iI_mul, iI_neg, lI_add, lI_sub, lI_mul, lI_neg, i2l_, l2i_, iI_lt, iI_le, iI_eq, lI_lt, lI_le, lI_eq, iI_lt0, iI_le0, iI_0lt, iI_0le, iI_eq0, iI_eq1, lI_lt0, lI_le0, lI_0lt, lI_0le, lI_eq0, ix_cl, ix_iff, upd_iI, updL_lI, lI_divF, lI_remF, iI_divF, iI_remF, em_eq, Int.not_lt, Int.not_le, true_implies, false_implies, and_true, true_and, not_true_eq_false, not_false_eq_true, true_or, or_true, or_false, false_or])); (conv => whnf)
      repeat' ((first | (refine ⟨fun _ => ?_, fun hb => absurd hb (by omega)⟩) | (refine ⟨fun hb => absurd hb (by omega), fun _ => ?_⟩) | (refine ⟨by omega, ?_⟩) | (refine ⟨⟨by omega, (by (conv => whnf); exact trivial)⟩, ?_⟩) | (refine ⟨(Nat.le_of_ble_eq_true rfl), bWp_ok _ (by (conv => whnf); exact trivial), ?_⟩) | (refine ⟨fun _ => ?_, fun _ => ?_⟩) | fail) <;> ((repeat ((conv => whnf); simp (disch := omega) only [Int.cast_ofNat_Int, Int.reduceToNat, iI_tt, Int.toNat_natCast, iI_add, iI_sub, iI_mul, iI_neg, lI_add, lI_sub, lI_mul, lI_neg, i2l_, l2i_, iI_lt, iI_le, iI_eq, lI_lt, lI_le, lI_eq, iI_lt0, iI_le0, iI_0lt, iI_0le, iI_eq0, iI_eq1, lI_lt0, lI_le0, lI_0lt, lI_0le, lI_eq0, ix_cl, ix_iff, upd_iI, updL_lI, lI_divF, lI_remF, iI_divF, iI_remF, em_eq, Int.not_lt, Int.not_le, true_implies, false_implies, and_true, true_and, not_true_eq_false, not_false_eq_true, true_or, or_true, or_false, false_or])); (conv => whnf)))
      exact step z (by rw [if_neg (by omega)]; exact h0) h2
