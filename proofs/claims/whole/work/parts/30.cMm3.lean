/-! THE REFERENCE: other rests, acts -/
theorem oth_dvd {s md wt num acc : Nat → Int} {n ck st wh rg : Int} (h : QOk s n ck st wh rg md wt num acc) {j k : Nat} (hj : (j : Int) < n) (hk : (k : Int) < n) (hne : j ≠ k) : md j ∣ wh / md k := by
  obtain ⟨g1, g2, g3⟩ := h.oth hk
  refine cop_dvd (p := md k) ?_ ?_
  · rcases Nat.lt_or_gt_of_ne hne with h1 | h1
    · rw [Int.gcd_comm]
      exact h.cop j k h1 hk
    · exact h.cop k j h1 hj
  · rw [Int.mul_comm, g2]
    exact h.dvd hj
theorem nw_other {s md wt num acc : Nat → Int} {n ck st wh rg x v : Int} (h : QOk s n ck st wh rg md wt num acc) {j k : Nat} (hj : (j : Int) < n) (hk : (k : Int) < n) (hne : j ≠ k) : (x + (v - x % md k) * wt k) % md j = x % md j := by
  obtain ⟨r, -, -, -, -, e⟩ := h.wt hk
  obtain ⟨c, hc⟩ := oth_dvd h hj hk hne
  refine dvd_mod ⟨(v - x % md k) * (c * r), ?_⟩
  rw [e, hc]
  have : (v - x % md k) * (md j * c * r) = md j * ((v - x % md k) * (c * r)) := by
    rw [Int.mul_assoc (md j), Int.mul_left_comm]
  omega
theorem nw_own {s md wt num acc : Nat → Int} {n ck st wh rg x v : Int} (h : QOk s n ck st wh rg md wt num acc) {k : Nat} (hk : (k : Int) < n) (v0 : 0 ≤ v) (v1 : v < md k) : (x + (v - x % md k) * wt k) % md k = v := by
  obtain ⟨r, -, -, e1, -, e⟩ := h.wt hk
  have h1 := Int.mul_ediv_add_emod (wh / md k * r) (md k)
  have h2 := Int.mul_ediv_add_emod x (md k)
  have e2 : (x + (v - x % md k) * wt k) % md k = v % md k := by
    refine dvd_mod ⟨x / md k + (v - x % md k) * (wh / md k * r / md k), ?_⟩
    have e3 : wt k = md k * (wh / md k * r / md k) + 1 := by
      rw [e]
      omega
    have e4 : (v - x % md k) * wt k = md k * ((v - x % md k) * (wh / md k * r / md k)) + (v - x % md k) := by
      rw [e3, Int.mul_add, Int.mul_one, Int.mul_left_comm]
    rw [Int.mul_add, e4]
    omega
  rw [e2]
  exact Int.emod_eq_of_lt v0 v1
theorem c_Mm_mends {d mc ms : Nat} {t0 pm ik il ec eo fr tt tk vl tn sts ops opn tp ip ol : Int} {s dr kp ps rs stm op wi pu nb ou : Nat → Int} {f : Nat → Int32} {n ck st wh rg : Int} {md wt num acc : Nat → Int} {K : Option Value → PW → Prop} {KX : String → PW → Prop} {r k v : Int} (hq : QOk s n ck st wh rg md wt num acc) (h0 : 0 ≤ r) (h8 : r < 8) (k0 : 0 ≤ k) (kn : k < n) (v0 : 0 ≤ v) (v1 : v < md k.toNat) (t9 : fitP rg (nwR wh (md k.toNat) (wt k.toNat) (num r.toNat) v) → ∀ rs', K (some (.int (iI 1))) (mmW t0 s dr kp ps pm ik (rs') f il ec eo fr tt tk vl tn stm sts op wi ops opn tp pu ip nb ou ol)) (f9 : ¬ fitP rg (nwR wh (md k.toNat) (wt k.toNat) (num r.toNat) v) → ∀ rs', K (some (.int (iI 0))) (mmW t0 s dr kp ps pm ik (rs') f il ec eo fr tt tk vl tn stm sts op wi ops opn tp pu ip nb ou ol)) : WQ M_Mm_mends (d + 5) mc ms [.ref 0, .int (iI r), .int (iI k), .int (iI v)] (mmW t0 s dr kp ps pm ik rs f il ec eo fr tt tk vl tn stm sts op wi ops opn tp pu ip nb ou ol) K KX := by
  have h6 := hq.rm.1
  refine methC (pf_Mm rfl) (tz_Mm rfl) rfl ?_
  refine run k_Mm_mends [] 900 ?_
  (repeat ((conv => whnf); simp (disch := omega) only [Int.cast_ofNat_Int, Int.reduceToNat, iI_tt, Int.toNat_natCast, iI_add, iI_sub, iI_mul, iI_neg, lI_add, lI_sub, lI_mul, lI_neg, i2l_, l2i_, iI_lt, iI_le, iI_eq, lI_lt, lI_le, lI_eq, iI_lt0, iI_le0, iI_0lt, iI_0le, iI_eq0, iI_eq1, lI_lt0, lI_le0, lI_0lt, lI_0le, lI_eq0, ix_cl, ix_iff, upd_iI, updL_lI, lI_divF, lI_remF, iI_divF, iI_remF, em_eq, Int.not_lt, Int.not_le, true_implies, false_implies, and_true, true_and, not_true_eq_false, not_false_eq_true, true_or, or_true, or_false, false_or])); (conv => whnf)
  refine c_Mm_copiesRow hq.rb hq.rm h0 (by omega) (by omega) (by omega) (fun s' rs' hs hrd => ?_)
  have es : s' = s := hs.2.2.1 (by omega)
  subst es
  (repeat ((conv => whnf); simp (disch := omega) only [Int.cast_ofNat_Int, Int.reduceToNat, iI_tt, Int.toNat_natCast, iI_add, iI_sub, iI_mul, iI_neg, lI_add, lI_sub, lI_mul, lI_neg, i2l_, l2i_, iI_lt, iI_le, iI_eq, lI_lt, lI_le, lI_eq, iI_lt0, iI_le0, iI_0lt, iI_0le, iI_eq0, iI_eq1, lI_lt0, lI_le0, lI_0lt, lI_0le, lI_eq0, ix_cl, ix_iff, upd_iI, updL_lI, lI_divF, lI_remF, iI_divF, iI_remF, em_eq, Int.not_lt, Int.not_le, true_implies, false_implies, and_true, true_and, not_true_eq_false, not_false_eq_true, true_or, or_true, or_false, false_or])); (conv => whnf)
  refine c_Mm_puts (by omega) (by omega) k0 (by omega) ?_
  (repeat ((conv => whnf); simp (disch := omega) only [Int.cast_ofNat_Int, Int.reduceToNat, iI_tt, Int.toNat_natCast, iI_add, iI_sub, iI_mul, iI_neg, lI_add, lI_sub, lI_mul, lI_neg, i2l_, l2i_, iI_lt, iI_le, iI_eq, lI_lt, lI_le, lI_eq, iI_lt0, iI_le0, iI_0lt, iI_0le, iI_eq0, iI_eq1, lI_lt0, lI_le0, lI_0lt, lI_0le, lI_eq0, ix_cl, ix_iff, upd_iI, updL_lI, lI_divF, lI_remF, iI_divF, iI_remF, em_eq, Int.not_lt, Int.not_le, true_implies, false_implies, and_true, true_and, not_true_eq_false, not_false_eq_true, true_or, or_true, or_false, false_or])); (conv => whnf)
  have ep : ptS s' 8 k v = s' := by
    unfold ptS
    rw [if_neg (by omega)]
  rw [ep]
  have hr : RowIs s' (ptR rs' 8 k v) 8 n md (num r.toNat + (v - num r.toNat % md k.toNat) * wt k.toNat) := by
    intro j hj
    have e1 := rd_pt (s := s') (rs := rs') (row := 8) (k := k) (v := v) (row' := 8) (k' := (j : Int)) (by omega) k0 (by omega) (by omega) (by omega) (by omega)
    rw [ep] at e1
    rw [e1]
    by_cases e : (j : Int) = k
    · rw [if_pos ⟨rfl, e⟩, show j = k.toNat by omega]
      exact (nw_own hq (by omega) v0 v1).symm
    · rw [if_neg (by omega), hrd j hj, nw_other hq hj (by omega) (by omega)]
      exact hq.row h0 h8 j hj
  refine c_Mm_soundNow hq.rb hq.rm hq.cop (by omega) (by omega) hr (fun hh => ?_) (fun hh => ?_)
  · rw [hq.wh, hq.rg] at hh
    (repeat ((conv => whnf); simp (disch := omega) only [Int.cast_ofNat_Int, Int.reduceToNat, iI_tt, Int.toNat_natCast, iI_add, iI_sub, iI_mul, iI_neg, lI_add, lI_sub, lI_mul, lI_neg, i2l_, l2i_, iI_lt, iI_le, iI_eq, lI_lt, lI_le, lI_eq, iI_lt0, iI_le0, iI_0lt, iI_0le, iI_eq0, iI_eq1, lI_lt0, lI_le0, lI_0lt, lI_0le, lI_eq0, ix_cl, ix_iff, upd_iI, updL_lI, lI_divF, lI_remF, iI_divF, iI_remF, em_eq, Int.not_lt, Int.not_le, true_implies, false_implies, and_true, true_and, not_true_eq_false, not_false_eq_true, true_or, or_true, or_false, false_or])); (conv => whnf)
    repeat' ((first | (refine ⟨fun _ => ?_, fun hb => absurd hb (by omega)⟩) | (refine ⟨fun hb => absurd hb (by omega), fun _ => ?_⟩) | (refine ⟨by omega, ?_⟩) | (refine ⟨⟨by omega, (by (conv => whnf); exact trivial)⟩, ?_⟩) | (refine ⟨(Nat.le_of_ble_eq_true rfl), bWp_ok _ (by (conv => whnf); exact trivial), ?_⟩) | (refine ⟨fun _ => ?_, fun _ => ?_⟩) | fail) <;> ((repeat ((conv => whnf); simp (disch := omega) only [Int.cast_ofNat_Int, Int.reduceToNat, iI_tt, Int.toNat_natCast, iI_add, iI_sub, iI_mul, iI_neg, lI_add, lI_sub, lI_mul, lI_neg, i2l_, l2i_, iI_lt, iI_le, iI_eq, lI_lt, lI_le, lI_eq, iI_lt0, iI_le0, iI_0lt, iI_0le, iI_eq0, iI_eq1, lI_lt0, lI_le0, lI_0lt, lI_0le, lI_eq0, ix_cl, ix_iff, upd_iI, updL_lI, lI_divF, lI_remF, iI_divF, iI_remF, em_eq, Int.not_lt, Int.not_le, true_implies, false_implies, and_true, true_and, not_true_eq_false, not_false_eq_true, true_or, or_true, or_false, false_or])); (conv => whnf)))
    exact t9 hh _
  · rw [hq.wh, hq.rg] at hh
    (repeat ((conv => whnf); simp (disch := omega) only [Int.cast_ofNat_Int, Int.reduceToNat, iI_tt, Int.toNat_natCast, iI_add, iI_sub, iI_mul, iI_neg, lI_add, lI_sub, lI_mul, lI_neg, i2l_, l2i_, iI_lt, iI_le, iI_eq, lI_lt, lI_le, lI_eq, iI_lt0, iI_le0, iI_0lt, iI_0le, iI_eq0, iI_eq1, lI_lt0, lI_le0, lI_0lt, lI_0le, lI_eq0, ix_cl, ix_iff, upd_iI, updL_lI, lI_divF, lI_remF, iI_divF, iI_remF, em_eq, Int.not_lt, Int.not_le, true_implies, false_implies, and_true, true_and, not_true_eq_false, not_false_eq_true, true_or, or_true, or_false, false_or])); (conv => whnf)
    repeat' ((first | (refine ⟨fun _ => ?_, fun hb => absurd hb (by omega)⟩) | (refine ⟨fun hb => absurd hb (by omega), fun _ => ?_⟩) | (refine ⟨by omega, ?_⟩) | (refine ⟨⟨by omega, (by (conv => whnf); exact trivial)⟩, ?_⟩) | (refine ⟨(Nat.le_of_ble_eq_true rfl), bWp_ok _ (by (conv => whnf); exact trivial), ?_⟩) | (refine ⟨fun _ => ?_, fun _ => ?_⟩) | fail) <;> ((repeat ((conv => whnf); simp (disch := omega) only [Int.cast_ofNat_Int, Int.reduceToNat, iI_tt, Int.toNat_natCast, iI_add, iI_sub, iI_mul, iI_neg, lI_add, lI_sub, lI_mul, lI_neg, i2l_, l2i_, iI_lt, iI_le, iI_eq, lI_lt, lI_le, lI_eq, iI_lt0, iI_le0, iI_0lt, iI_0le, iI_eq0, iI_eq1, lI_lt0, lI_le0, lI_0lt, lI_0le, lI_eq0, ix_cl, ix_iff, upd_iI, updL_lI, lI_divF, lI_remF, iI_divF, iI_remF, em_eq, Int.not_lt, Int.not_le, true_implies, false_implies, and_true, true_and, not_true_eq_false, not_false_eq_true, true_or, or_true, or_false, false_or])); (conv => whnf)))
    exact f9 hh _
theorem lq_mr {d mc ms : Nat} {t0 pm ik il ec eo fr tt tk vl tn sts ops opn tp ip ol : Int} {s dr kp ps rs stm op wi pu nb ou : Nat → Int} {f : Nat → Int32} {n ck st wh rg : Int} {md wt num acc : Nat → Int} {K : Option Value → PW → Prop} {KX : String → PW → Prop} {r k : Int} (hq : QOk s n ck st wh rg md wt num acc) (h0 : 0 ≤ r) (h8 : r < 8) (k0 : 0 ≤ k) (kn : k < n) (hu : ¬ fitP rg (num r.toNat)) (h : ∀ v rs', SrP wh rg (md k.toNat) (wt k.toNat) (num r.toNat) v → K (some (.int (iI v))) (mmW t0 s dr kp ps pm ik (rs') f il ec eo fr tt tk vl tn stm sts op wi ops opn tp pu ip nb ou ol)) : ∀ (q : Nat) (i : Int) (rs : Nat → Int), i + q = md k.toNat → 0 ≤ i → (∀ j, 0 ≤ j → j < i → ¬ fitP rg (nwR wh (md k.toNat) (wt k.toNat) (num r.toNat) j)) →
    GO M_Mm_mendingRest (d + 6) mc ms 2 [some (.ref 0), some (.int (iI r)), some (.int (iI k)), some (.int (iI i))] [] (mmW t0 s dr kp ps pm ik rs f il ec eo fr tt tk vl tn stm sts op wi ops opn tp pu ip nb ou ol) K KX := by
  have h6 := hq.rm.1
  have hk2 := hq.rm.2 k.toNat (by omega)
  have e1 := Int.emod_nonneg (num r.toNat) (b := md k.toNat) (by omega)
  have e2 := Int.emod_lt_of_pos (num r.toNat) (show 0 < md k.toNat by omega)
  have eu : ∀ i, i = num r.toNat % md k.toNat → ¬ fitP rg (nwR wh (md k.toNat) (wt k.toNat) (num r.toNat) i) := by
    intro i hi
    unfold nwR
    rw [hi, Int.sub_self, Int.zero_mul, Int.add_zero, hq.nin (by omega)]
    exact hu
  intro q
  induction q with
  | zero =>
    intro i rs hi i0 hj
    refine run k_Mm_mendingRest [] 900 ?_
    (repeat ((conv => whnf); simp (disch := omega) only [Int.cast_ofNat_Int, Int.reduceToNat, iI_tt, Int.toNat_natCast, iI_add, iI_sub, iI_mul, iI_neg, lI_add, lI_sub, lI_mul, lI_neg, i2l_, l2i_, iI_lt, iI_le, iI_eq, lI_lt, lI_le, lI_eq, iI_lt0, iI_le0, iI_0lt, iI_0le, iI_eq0, iI_eq1, lI_lt0, lI_le0, lI_0lt, lI_0le, lI_eq0, ix_cl, ix_iff, upd_iI, updL_lI, lI_divF, lI_remF, iI_divF, iI_remF, em_eq, Int.not_lt, Int.not_le, true_implies, false_implies, and_true, true_and, not_true_eq_false, not_false_eq_true, true_or, or_true, or_false, false_or])); (conv => whnf)
    refine c_Mm_mod hq.rb k0 kn (by omega) ?_
    (repeat ((conv => whnf); simp (disch := omega) only [Int.cast_ofNat_Int, Int.reduceToNat, iI_tt, Int.toNat_natCast, iI_add, iI_sub, iI_mul, iI_neg, lI_add, lI_sub, lI_mul, lI_neg, i2l_, l2i_, iI_lt, iI_le, iI_eq, lI_lt, lI_le, lI_eq, iI_lt0, iI_le0, iI_0lt, iI_0le, iI_eq0, iI_eq1, lI_lt0, lI_le0, lI_0lt, lI_0le, lI_eq0, ix_cl, ix_iff, upd_iI, updL_lI, lI_divF, lI_remF, iI_divF, iI_remF, em_eq, Int.not_lt, Int.not_le, true_implies, false_implies, and_true, true_and, not_true_eq_false, not_false_eq_true, true_or, or_true, or_false, false_or])); (conv => whnf)
    (repeat ((conv => whnf); simp (disch := omega) only [Int.cast_ofNat_Int, Int.reduceToNat, iI_tt, Int.toNat_natCast, iI_add, iI_sub, iI_mul, iI_neg, lI_add, lI_sub, lI_mul, lI_neg, i2l_, l2i_, iI_lt, iI_le, iI_eq, lI_lt, lI_le, lI_eq, iI_lt0, iI_le0, iI_0lt, iI_0le, iI_eq0, iI_eq1, lI_lt0, lI_le0, lI_0lt, lI_0le, lI_eq0, ix_cl, ix_iff, upd_iI, updL_lI, lI_divF, lI_remF, iI_divF, iI_remF, em_eq, Int.not_lt, Int.not_le, true_implies, false_implies, and_true, true_and, not_true_eq_false, not_false_eq_true, true_or, or_true, or_false, false_or])); (conv => whnf)
    repeat' ((first | (refine ⟨fun _ => ?_, fun hb => absurd hb (by omega)⟩) | (refine ⟨fun hb => absurd hb (by omega), fun _ => ?_⟩) | (refine ⟨by omega, ?_⟩) | (refine ⟨⟨by omega, (by (conv => whnf); exact trivial)⟩, ?_⟩) | (refine ⟨(Nat.le_of_ble_eq_true rfl), bWp_ok _ (by (conv => whnf); exact trivial), ?_⟩) | (refine ⟨fun _ => ?_, fun _ => ?_⟩) | fail) <;> ((repeat ((conv => whnf); simp (disch := omega) only [Int.cast_ofNat_Int, Int.reduceToNat, iI_tt, Int.toNat_natCast, iI_add, iI_sub, iI_mul, iI_neg, lI_add, lI_sub, lI_mul, lI_neg, i2l_, l2i_, iI_lt, iI_le, iI_eq, lI_lt, lI_le, lI_eq, iI_lt0, iI_le0, iI_0lt, iI_0le, iI_eq0, iI_eq1, lI_lt0, lI_le0, lI_0lt, lI_0le, lI_eq0, ix_cl, ix_iff, upd_iI, updL_lI, lI_divF, lI_remF, iI_divF, iI_remF, em_eq, Int.not_lt, Int.not_le, true_implies, false_implies, and_true, true_and, not_true_eq_false, not_false_eq_true, true_or, or_true, or_false, false_or])); (conv => whnf)))
    exact h (-1) rs (Or.inr ⟨rfl, fun j j0 j1 => hj j j0 (by omega)⟩)
  | succ q ih =>
    intro i rs hi i0 hj
    have step : ¬ fitP rg (nwR wh (md k.toNat) (wt k.toNat) (num r.toNat) i) → ∀ rs, GO M_Mm_mendingRest (d + 6) mc ms 2 [some (.ref 0), some (.int (iI r)), some (.int (iI k)), some (.int (iI (i + 1)))] [] (mmW t0 s dr kp ps pm ik rs f il ec eo fr tt tk vl tn stm sts op wi ops opn tp pu ip nb ou ol) K KX := by
      intro hn rs
      refine ih (i + 1) rs (by omega) (by omega) (fun j j0 j1 => ?_)
      by_cases e : j = i
      · rw [e]
        exact hn
      · exact hj j j0 (by omega)
    refine run k_Mm_mendingRest [2] 900 ?_
    (repeat ((conv => whnf); simp (disch := omega) only [Int.cast_ofNat_Int, Int.reduceToNat, iI_tt, Int.toNat_natCast, iI_add, iI_sub, iI_mul, iI_neg, lI_add, lI_sub, lI_mul, lI_neg, i2l_, l2i_, iI_lt, iI_le, iI_eq, lI_lt, lI_le, lI_eq, iI_lt0, iI_le0, iI_0lt, iI_0le, iI_eq0, iI_eq1, lI_lt0, lI_le0, lI_0lt, lI_0le, lI_eq0, ix_cl, ix_iff, upd_iI, updL_lI, lI_divF, lI_remF, iI_divF, iI_remF, em_eq, Int.not_lt, Int.not_le, true_implies, false_implies, and_true, true_and, not_true_eq_false, not_false_eq_true, true_or, or_true, or_false, false_or])); (conv => whnf)
    refine c_Mm_mod hq.rb k0 kn (by omega) ?_
    (repeat ((conv => whnf); simp (disch := omega) only [Int.cast_ofNat_Int, Int.reduceToNat, iI_tt, Int.toNat_natCast, iI_add, iI_sub, iI_mul, iI_neg, lI_add, lI_sub, lI_mul, lI_neg, i2l_, l2i_, iI_lt, iI_le, iI_eq, lI_lt, lI_le, lI_eq, iI_lt0, iI_le0, iI_0lt, iI_0le, iI_eq0, iI_eq1, lI_lt0, lI_le0, lI_0lt, lI_0le, lI_eq0, ix_cl, ix_iff, upd_iI, updL_lI, lI_divF, lI_remF, iI_divF, iI_remF, em_eq, Int.not_lt, Int.not_le, true_implies, false_implies, and_true, true_and, not_true_eq_false, not_false_eq_true, true_or, or_true, or_false, false_or])); (conv => whnf)
    (repeat ((conv => whnf); simp (disch := omega) only [Int.cast_ofNat_Int, Int.reduceToNat, iI_tt, Int.toNat_natCast, iI_add, iI_sub, iI_mul, iI_neg, lI_add, lI_sub, lI_mul, lI_neg, i2l_, l2i_, iI_lt, iI_le, iI_eq, lI_lt, lI_le, lI_eq, iI_lt0, iI_le0, iI_0lt, iI_0le, iI_eq0, iI_eq1, lI_lt0, lI_le0, lI_0lt, lI_0le, lI_eq0, ix_cl, ix_iff, upd_iI, updL_lI, lI_divF, lI_remF, iI_divF, iI_remF, em_eq, Int.not_lt, Int.not_le, true_implies, false_implies, and_true, true_and, not_true_eq_false, not_false_eq_true, true_or, or_true, or_false, false_or])); (conv => whnf)
    repeat' ((first | (refine ⟨fun _ => ?_, fun hb => absurd hb (by omega)⟩) | (refine ⟨fun hb => absurd hb (by omega), fun _ => ?_⟩) | (refine ⟨by omega, ?_⟩) | (refine ⟨⟨by omega, (by (conv => whnf); exact trivial)⟩, ?_⟩) | (refine ⟨(Nat.le_of_ble_eq_true rfl), bWp_ok _ (by (conv => whnf); exact trivial), ?_⟩) | (refine ⟨fun _ => ?_, fun _ => ?_⟩) | fail) <;> ((repeat ((conv => whnf); simp (disch := omega) only [Int.cast_ofNat_Int, Int.reduceToNat, iI_tt, Int.toNat_natCast, iI_add, iI_sub, iI_mul, iI_neg, lI_add, lI_sub, lI_mul, lI_neg, i2l_, l2i_, iI_lt, iI_le, iI_eq, lI_lt, lI_le, lI_eq, iI_lt0, iI_le0, iI_0lt, iI_0le, iI_eq0, iI_eq1, lI_lt0, lI_le0, lI_0lt, lI_0le, lI_eq0, ix_cl, ix_iff, upd_iI, updL_lI, lI_divF, lI_remF, iI_divF, iI_remF, em_eq, Int.not_lt, Int.not_le, true_implies, false_implies, and_true, true_and, not_true_eq_false, not_false_eq_true, true_or, or_true, or_false, false_or])); (conv => whnf)))
    refine cQ_restOf hq h0 h8 k0 kn ?_
    (repeat ((conv => whnf); simp (disch := omega) only [Int.cast_ofNat_Int, Int.reduceToNat, iI_tt, Int.toNat_natCast, iI_add, iI_sub, iI_mul, iI_neg, lI_add, lI_sub, lI_mul, lI_neg, i2l_, l2i_, iI_lt, iI_le, iI_eq, lI_lt, lI_le, lI_eq, iI_lt0, iI_le0, iI_0lt, iI_0le, iI_eq0, iI_eq1, lI_lt0, lI_le0, lI_0lt, lI_0le, lI_eq0, ix_cl, ix_iff, upd_iI, updL_lI, lI_divF, lI_remF, iI_divF, iI_remF, em_eq, Int.not_lt, Int.not_le, true_implies, false_implies, and_true, true_and, not_true_eq_false, not_false_eq_true, true_or, or_true, or_false, false_or])); (conv => whnf)
    (repeat ((conv => whnf); simp (disch := omega) only [Int.cast_ofNat_Int, Int.reduceToNat, iI_tt, Int.toNat_natCast, iI_add, iI_sub, iI_mul, iI_neg, lI_add, lI_sub, lI_mul, lI_neg, i2l_, l2i_, iI_lt, iI_le, iI_eq, lI_lt, lI_le, lI_eq, iI_lt0, iI_le0, iI_0lt, iI_0le, iI_eq0, iI_eq1, lI_lt0, lI_le0, lI_0lt, lI_0le, lI_eq0, ix_cl, ix_iff, upd_iI, updL_lI, lI_divF, lI_remF, iI_divF, iI_remF, em_eq, Int.not_lt, Int.not_le, true_implies, false_implies, and_true, true_and, not_true_eq_false, not_false_eq_true, true_or, or_true, or_false, false_or])); (conv => whnf)
    repeat' ((first | (refine ⟨fun _ => ?_, fun hb => absurd hb (by omega)⟩) | (refine ⟨fun hb => absurd hb (by omega), fun _ => ?_⟩) | (refine ⟨by omega, ?_⟩) | (refine ⟨⟨by omega, (by (conv => whnf); exact trivial)⟩, ?_⟩) | (refine ⟨(Nat.le_of_ble_eq_true rfl), bWp_ok _ (by (conv => whnf); exact trivial), ?_⟩) | (refine ⟨fun _ => ?_, fun _ => ?_⟩) | fail) <;> ((repeat ((conv => whnf); simp (disch := omega) only [Int.cast_ofNat_Int, Int.reduceToNat, iI_tt, Int.toNat_natCast, iI_add, iI_sub, iI_mul, iI_neg, lI_add, lI_sub, lI_mul, lI_neg, i2l_, l2i_, iI_lt, iI_le, iI_eq, lI_lt, lI_le, lI_eq, iI_lt0, iI_le0, iI_0lt, iI_0le, iI_eq0, iI_eq1, lI_lt0, lI_le0, lI_0lt, lI_0le, lI_eq0, ix_cl, ix_iff, upd_iI, updL_lI, lI_divF, lI_remF, iI_divF, iI_remF, em_eq, Int.not_lt, Int.not_le, true_implies, false_implies, and_true, true_and, not_true_eq_false, not_false_eq_true, true_or, or_true, or_false, false_or])); (conv => whnf)))
    · exact step (eu i (by omega)) rs
    · refine c_Mm_mends hq h0 h8 k0 kn i0 (by omega) (fun hh rs' => ?_) (fun hh rs' => ?_)
      · (repeat ((conv => whnf); simp (disch := omega) only [Int.cast_ofNat_Int, Int.reduceToNat, iI_tt, Int.toNat_natCast, iI_add, iI_sub, iI_mul, iI_neg, lI_add, lI_sub, lI_mul, lI_neg, i2l_, l2i_, iI_lt, iI_le, iI_eq, lI_lt, lI_le, lI_eq, iI_lt0, iI_le0, iI_0lt, iI_0le, iI_eq0, iI_eq1, lI_lt0, lI_le0, lI_0lt, lI_0le, lI_eq0, ix_cl, ix_iff, upd_iI, updL_lI, lI_divF, lI_remF, iI_divF, iI_remF, em_eq, Int.not_lt, Int.not_le, true_implies, false_implies, and_true, true_and, not_true_eq_false, not_false_eq_true, true_or, or_true, or_false, false_or])); (conv => whnf)
        repeat' ((first | (refine ⟨fun _ => ?_, fun hb => absurd hb (by omega)⟩) | (refine ⟨fun hb => absurd hb (by omega), fun _ => ?_⟩) | (refine ⟨by omega, ?_⟩) | (refine ⟨⟨by omega, (by (conv => whnf); exact trivial)⟩, ?_⟩) | (refine ⟨(Nat.le_of_ble_eq_true rfl), bWp_ok _ (by (conv => whnf); exact trivial), ?_⟩) | (refine ⟨fun _ => ?_, fun _ => ?_⟩) | fail) <;> ((repeat ((conv => whnf); simp (disch := omega) only [Int.cast_ofNat_Int, Int.reduceToNat, iI_tt, Int.toNat_natCast, iI_add, iI_sub, iI_mul, iI_neg, lI_add, lI_sub, lI_mul, lI_neg, i2l_, l2i_, iI_lt, iI_le, iI_eq, lI_lt, lI_le, lI_eq, iI_lt0, iI_le0, iI_0lt, iI_0le, iI_eq0, iI_eq1, lI_lt0, lI_le0, lI_0lt, lI_0le, lI_eq0, ix_cl, ix_iff, upd_iI, updL_lI, lI_divF, lI_remF, iI_divF, iI_remF, em_eq, Int.not_lt, Int.not_le, true_implies, false_implies, and_true, true_and, not_true_eq_false, not_false_eq_true, true_or, or_true, or_false, false_or])); (conv => whnf)))
        exact h i rs' (Or.inl ⟨i0, by omega, hh, hj⟩)
      · (repeat ((conv => whnf); simp (disch := omega) only [Int.cast_ofNat_Int, Int.reduceToNat, iI_tt, Int.toNat_natCast, iI_add, iI_sub, iI_mul, iI_neg, lI_add, lI_sub, lI_mul, lI_neg, i2l_, l2i_, iI_lt, iI_le, iI_eq, lI_lt, lI_le, lI_eq, iI_lt0, iI_le0, iI_0lt, iI_0le, iI_eq0, iI_eq1, lI_lt0, lI_le0, lI_0lt, lI_0le, lI_eq0, ix_cl, ix_iff, upd_iI, updL_lI, lI_divF, lI_remF, iI_divF, iI_remF, em_eq, Int.not_lt, Int.not_le, true_implies, false_implies, and_true, true_and, not_true_eq_false, not_false_eq_true, true_or, or_true, or_false, false_or])); (conv => whnf)
        repeat' ((first | (refine ⟨fun _ => ?_, fun hb => absurd hb (by omega)⟩) | (refine ⟨fun hb => absurd hb (by omega), fun _ => ?_⟩) | (refine ⟨by omega, ?_⟩) | (refine ⟨⟨by omega, (by (conv => whnf); exact trivial)⟩, ?_⟩) | (refine ⟨(Nat.le_of_ble_eq_true rfl), bWp_ok _ (by (conv => whnf); exact trivial), ?_⟩) | (refine ⟨fun _ => ?_, fun _ => ?_⟩) | fail) <;> ((repeat ((conv => whnf); simp (disch := omega) only [Int.cast_ofNat_Int, Int.reduceToNat, iI_tt, Int.toNat_natCast, iI_add, iI_sub, iI_mul, iI_neg, lI_add, lI_sub, lI_mul, lI_neg, i2l_, l2i_, iI_lt, iI_le, iI_eq, lI_lt, lI_le, lI_eq, iI_lt0, iI_le0, iI_0lt, iI_0le, iI_eq0, iI_eq1, lI_lt0, lI_le0, lI_0lt, lI_0le, lI_eq0, ix_cl, ix_iff, upd_iI, updL_lI, lI_divF, lI_remF, iI_divF, iI_remF, em_eq, Int.not_lt, Int.not_le, true_implies, false_implies, and_true, true_and, not_true_eq_false, not_false_eq_true, true_or, or_true, or_false, false_or])); (conv => whnf)))
        exact step hh rs'
theorem c_Mm_mendingRest {d mc ms : Nat} {t0 pm ik il ec eo fr tt tk vl tn sts ops opn tp ip ol : Int} {s dr kp ps rs stm op wi pu nb ou : Nat → Int} {f : Nat → Int32} {n ck st wh rg : Int} {md wt num acc : Nat → Int} {K : Option Value → PW → Prop} {KX : String → PW → Prop} {r k : Int} (hq : QOk s n ck st wh rg md wt num acc) (h0 : 0 ≤ r) (h8 : r < 8) (k0 : 0 ≤ k) (kn : k < n) (hu : ¬ fitP rg (num r.toNat)) (h : ∀ v rs', SrP wh rg (md k.toNat) (wt k.toNat) (num r.toNat) v → K (some (.int (iI v))) (mmW t0 s dr kp ps pm ik (rs') f il ec eo fr tt tk vl tn stm sts op wi ops opn tp pu ip nb ou ol)) : WQ M_Mm_mendingRest (d + 6) mc ms [.ref 0, .int (iI r), .int (iI k)] (mmW t0 s dr kp ps pm ik rs f il ec eo fr tt tk vl tn stm sts op wi ops opn tp pu ip nb ou ol) K KX := by
  have hk2 := hq.rm.2 k.toNat (by omega)
  refine methC (pf_Mm rfl) (tz_Mm rfl) rfl ?_
  refine run k_Mm_mendingRest [2] 900 ?_
  (repeat ((conv => whnf); simp (disch := omega) only [Int.cast_ofNat_Int, Int.reduceToNat, iI_tt, Int.toNat_natCast, iI_add, iI_sub, iI_mul, iI_neg, lI_add, lI_sub, lI_mul, lI_neg, i2l_, l2i_, iI_lt, iI_le, iI_eq, lI_lt, lI_le, lI_eq, iI_lt0, iI_le0, iI_0lt, iI_0le, iI_eq0, iI_eq1, lI_lt0, lI_le0, lI_0lt, lI_0le, lI_eq0, ix_cl, ix_iff, upd_iI, updL_lI, lI_divF, lI_remF, iI_divF, iI_remF, em_eq, Int.not_lt, Int.not_le, true_implies, false_implies, and_true, true_and, not_true_eq_false, not_false_eq_true, true_or, or_true, or_false, false_or])); (conv => whnf)
  exact lq_mr (rs := rs) hq h0 h8 k0 kn hu h (md k.toNat).toNat 0 rs (by omega) (by omega) (fun j j0 j1 => by omega)
theorem lq_mn {d mc ms : Nat} {t0 pm ik il ec eo fr tt tk vl tn sts ops opn tp ip ol : Int} {s dr kp ps rs stm op wi pu nb ou : Nat → Int} {f : Nat → Int32} {n ck st wh rg : Int} {md wt num acc : Nat → Int} {K : Option Value → PW → Prop} {KX : String → PW → Prop} {r : Int} (hq : QOk s n ck st wh rg md wt num acc) (h0 : 0 ≤ r) (h8 : r < 8) (hu : ¬ fitP rg (num r.toNat))
    (f9 : (∀ k : Nat, (k : Int) < n → ¬ fltB wh rg md wt (num r.toNat) k = true) → ∀ s' rs', RR s' n ck st md num (bk acc 3) → K (some (.int (iI 3))) (mmW t0 (s') dr kp ps pm ik (rs') f il ec eo fr tt tk vl tn stm sts op wi ops opn tp pu ip nb ou ol))
    (t9 : ∀ (k : Nat) (v : Int), (k : Int) < n → (∀ j : Nat, j < k → ¬ fltB wh rg md wt (num r.toNat) j = true) → SrP wh rg (md k) (wt k) (num r.toNat) v → ¬ v = -1 → ∀ s' rs', RR s' n ck st md (upI num r.toNat (nin (nwR wh (md k) (wt k) (num r.toNat) v) wh)) (finA rg (nin (nwR wh (md k) (wt k) (num r.toNat) v) wh) acc) → K (some (.int (iI 0))) (mmW t0 (s') dr kp ps pm ik (rs') f il ec eo fr tt tk vl tn stm sts op wi ops opn tp pu ip nb ou ol)) : ∀ (q : Nat) (i : Int) (rs : Nat → Int), i + q = n → 0 ≤ i → (∀ k : Nat, (k : Int) < i → ¬ fltB wh rg md wt (num r.toNat) k = true) →
    GO M_Mm_mendsNow (d + 7) mc ms 16 [some (.ref 0), some (.int (iI r)), some (.int (iI i))] [] (mmW t0 s dr kp ps pm ik rs f il ec eo fr tt tk vl tn stm sts op wi ops opn tp pu ip nb ou ol) K KX := by
  have h6 := hq.rm.1
  intro q
  induction q with
  | zero =>
    intro i rs hi i0 hj
    refine run k_Mm_mendsNow [] 900 ?_
    (repeat ((conv => whnf); simp (disch := omega) only [Int.cast_ofNat_Int, Int.reduceToNat, iI_tt, Int.toNat_natCast, iI_add, iI_sub, iI_mul, iI_neg, lI_add, lI_sub, lI_mul, lI_neg, i2l_, l2i_, iI_lt, iI_le, iI_eq, lI_lt, lI_le, lI_eq, iI_lt0, iI_le0, iI_0lt, iI_0le, iI_eq0, iI_eq1, lI_lt0, lI_le0, lI_0lt, lI_0le, lI_eq0, ix_cl, ix_iff, upd_iI, updL_lI, lI_divF, lI_remF, iI_divF, iI_remF, em_eq, Int.not_lt, Int.not_le, true_implies, false_implies, and_true, true_and, not_true_eq_false, not_false_eq_true, true_or, or_true, or_false, false_or])); (conv => whnf)
    refine c_Mm_many hq.rb ?_
    (repeat ((conv => whnf); simp (disch := omega) only [Int.cast_ofNat_Int, Int.reduceToNat, iI_tt, Int.toNat_natCast, iI_add, iI_sub, iI_mul, iI_neg, lI_add, lI_sub, lI_mul, lI_neg, i2l_, l2i_, iI_lt, iI_le, iI_eq, lI_lt, lI_le, lI_eq, iI_lt0, iI_le0, iI_0lt, iI_0le, iI_eq0, iI_eq1, lI_lt0, lI_le0, lI_0lt, lI_0le, lI_eq0, ix_cl, ix_iff, upd_iI, updL_lI, lI_divF, lI_remF, iI_divF, iI_remF, em_eq, Int.not_lt, Int.not_le, true_implies, false_implies, and_true, true_and, not_true_eq_false, not_false_eq_true, true_or, or_true, or_false, false_or])); (conv => whnf)
    (repeat ((conv => whnf); simp (disch := omega) only [Int.cast_ofNat_Int, Int.reduceToNat, iI_tt, Int.toNat_natCast, iI_add, iI_sub, iI_mul, iI_neg, lI_add, lI_sub, lI_mul, lI_neg, i2l_, l2i_, iI_lt, iI_le, iI_eq, lI_lt, lI_le, lI_eq, iI_lt0, iI_le0, iI_0lt, iI_0le, iI_eq0, iI_eq1, lI_lt0, lI_le0, lI_0lt, lI_0le, lI_eq0, ix_cl, ix_iff, upd_iI, updL_lI, lI_divF, lI_remF, iI_divF, iI_remF, em_eq, Int.not_lt, Int.not_le, true_implies, false_implies, and_true, true_and, not_true_eq_false, not_false_eq_true, true_or, or_true, or_false, false_or])); (conv => whnf)
    repeat' ((first | (refine ⟨fun _ => ?_, fun hb => absurd hb (by omega)⟩) | (refine ⟨fun hb => absurd hb (by omega), fun _ => ?_⟩) | (refine ⟨by omega, ?_⟩) | (refine ⟨⟨by omega, (by (conv => whnf); exact trivial)⟩, ?_⟩) | (refine ⟨(Nat.le_of_ble_eq_true rfl), bWp_ok _ (by (conv => whnf); exact trivial), ?_⟩) | (refine ⟨fun _ => ?_, fun _ => ?_⟩) | fail) <;> ((repeat ((conv => whnf); simp (disch := omega) only [Int.cast_ofNat_Int, Int.reduceToNat, iI_tt, Int.toNat_natCast, iI_add, iI_sub, iI_mul, iI_neg, lI_add, lI_sub, lI_mul, lI_neg, i2l_, l2i_, iI_lt, iI_le, iI_eq, lI_lt, lI_le, lI_eq, iI_lt0, iI_le0, iI_0lt, iI_0le, iI_eq0, iI_eq1, lI_lt0, lI_le0, lI_0lt, lI_0le, lI_eq0, ix_cl, ix_iff, upd_iI, updL_lI, lI_divF, lI_remF, iI_divF, iI_remF, em_eq, Int.not_lt, Int.not_le, true_implies, false_implies, and_true, true_and, not_true_eq_false, not_false_eq_true, true_or, or_true, or_false, false_or])); (conv => whnf)))
    refine c_Mm_refuses (by omega) (by omega) ?_
    (repeat ((conv => whnf); simp (disch := omega) only [Int.cast_ofNat_Int, Int.reduceToNat, iI_tt, Int.toNat_natCast, iI_add, iI_sub, iI_mul, iI_neg, lI_add, lI_sub, lI_mul, lI_neg, i2l_, l2i_, iI_lt, iI_le, iI_eq, lI_lt, lI_le, lI_eq, iI_lt0, iI_le0, iI_0lt, iI_0le, iI_eq0, iI_eq1, lI_lt0, lI_le0, lI_0lt, lI_0le, lI_eq0, ix_cl, ix_iff, upd_iI, updL_lI, lI_divF, lI_remF, iI_divF, iI_remF, em_eq, Int.not_lt, Int.not_le, true_implies, false_implies, and_true, true_and, not_true_eq_false, not_false_eq_true, true_or, or_true, or_false, false_or])); (conv => whnf)
    exact f9 (fun k hk => hj k (by omega)) _ _ (RR_ct (a := 3) (by omega) (by omega) hq.1)
  | succ q ih =>
    intro i rs hi i0 hj
    have hk2 := hq.rm.2 i.toNat (by omega)
    refine run k_Mm_mendsNow [16] 900 ?_
    (repeat ((conv => whnf); simp (disch := omega) only [Int.cast_ofNat_Int, Int.reduceToNat, iI_tt, Int.toNat_natCast, iI_add, iI_sub, iI_mul, iI_neg, lI_add, lI_sub, lI_mul, lI_neg, i2l_, l2i_, iI_lt, iI_le, iI_eq, lI_lt, lI_le, lI_eq, iI_lt0, iI_le0, iI_0lt, iI_0le, iI_eq0, iI_eq1, lI_lt0, lI_le0, lI_0lt, lI_0le, lI_eq0, ix_cl, ix_iff, upd_iI, updL_lI, lI_divF, lI_remF, iI_divF, iI_remF, em_eq, Int.not_lt, Int.not_le, true_implies, false_implies, and_true, true_and, not_true_eq_false, not_false_eq_true, true_or, or_true, or_false, false_or])); (conv => whnf)
    refine c_Mm_many hq.rb ?_
    (repeat ((conv => whnf); simp (disch := omega) only [Int.cast_ofNat_Int, Int.reduceToNat, iI_tt, Int.toNat_natCast, iI_add, iI_sub, iI_mul, iI_neg, lI_add, lI_sub, lI_mul, lI_neg, i2l_, l2i_, iI_lt, iI_le, iI_eq, lI_lt, lI_le, lI_eq, iI_lt0, iI_le0, iI_0lt, iI_0le, iI_eq0, iI_eq1, lI_lt0, lI_le0, lI_0lt, lI_0le, lI_eq0, ix_cl, ix_iff, upd_iI, updL_lI, lI_divF, lI_remF, iI_divF, iI_remF, em_eq, Int.not_lt, Int.not_le, true_implies, false_implies, and_true, true_and, not_true_eq_false, not_false_eq_true, true_or, or_true, or_false, false_or])); (conv => whnf)
    (repeat ((conv => whnf); simp (disch := omega) only [Int.cast_ofNat_Int, Int.reduceToNat, iI_tt, Int.toNat_natCast, iI_add, iI_sub, iI_mul, iI_neg, lI_add, lI_sub, lI_mul, lI_neg, i2l_, l2i_, iI_lt, iI_le, iI_eq, lI_lt, lI_le, lI_eq, iI_lt0, iI_le0, iI_0lt, iI_0le, iI_eq0, iI_eq1, lI_lt0, lI_le0, lI_0lt, lI_0le, lI_eq0, ix_cl, ix_iff, upd_iI, updL_lI, lI_divF, lI_remF, iI_divF, iI_remF, em_eq, Int.not_lt, Int.not_le, true_implies, false_implies, and_true, true_and, not_true_eq_false, not_false_eq_true, true_or, or_true, or_false, false_or])); (conv => whnf)
    repeat' ((first | (refine ⟨fun _ => ?_, fun hb => absurd hb (by omega)⟩) | (refine ⟨fun hb => absurd hb (by omega), fun _ => ?_⟩) | (refine ⟨by omega, ?_⟩) | (refine ⟨⟨by omega, (by (conv => whnf); exact trivial)⟩, ?_⟩) | (refine ⟨(Nat.le_of_ble_eq_true rfl), bWp_ok _ (by (conv => whnf); exact trivial), ?_⟩) | (refine ⟨fun _ => ?_, fun _ => ?_⟩) | fail) <;> ((repeat ((conv => whnf); simp (disch := omega) only [Int.cast_ofNat_Int, Int.reduceToNat, iI_tt, Int.toNat_natCast, iI_add, iI_sub, iI_mul, iI_neg, lI_add, lI_sub, lI_mul, lI_neg, i2l_, l2i_, iI_lt, iI_le, iI_eq, lI_lt, lI_le, lI_eq, iI_lt0, iI_le0, iI_0lt, iI_0le, iI_eq0, iI_eq1, lI_lt0, lI_le0, lI_0lt, lI_0le, lI_eq0, ix_cl, ix_iff, upd_iI, updL_lI, lI_divF, lI_remF, iI_divF, iI_remF, em_eq, Int.not_lt, Int.not_le, true_implies, false_implies, and_true, true_and, not_true_eq_false, not_false_eq_true, true_or, or_true, or_false, false_or])); (conv => whnf)))
    refine c_Mm_mendingRest hq h0 h8 i0 (by omega) hu (fun v rs' hv => ?_)
    have e1 := fltB_t hv
    have e2 : -1 ≤ v ∧ v < 97 := by rcases hv with hv | hv <;> omega
    (repeat ((conv => whnf); simp (disch := omega) only [Int.cast_ofNat_Int, Int.reduceToNat, iI_tt, Int.toNat_natCast, iI_add, iI_sub, iI_mul, iI_neg, lI_add, lI_sub, lI_mul, lI_neg, i2l_, l2i_, iI_lt, iI_le, iI_eq, lI_lt, lI_le, lI_eq, iI_lt0, iI_le0, iI_0lt, iI_0le, iI_eq0, iI_eq1, lI_lt0, lI_le0, lI_0lt, lI_0le, lI_eq0, ix_cl, ix_iff, upd_iI, updL_lI, lI_divF, lI_remF, iI_divF, iI_remF, em_eq, Int.not_lt, Int.not_le, true_implies, false_implies, and_true, true_and, not_true_eq_false, not_false_eq_true, true_or, or_true, or_false, false_or])); (conv => whnf)
    repeat' ((first | (refine ⟨fun _ => ?_, fun hb => absurd hb (by omega)⟩) | (refine ⟨fun hb => absurd hb (by omega), fun _ => ?_⟩) | (refine ⟨by omega, ?_⟩) | (refine ⟨⟨by omega, (by (conv => whnf); exact trivial)⟩, ?_⟩) | (refine ⟨(Nat.le_of_ble_eq_true rfl), bWp_ok _ (by (conv => whnf); exact trivial), ?_⟩) | (refine ⟨fun _ => ?_, fun _ => ?_⟩) | fail) <;> ((repeat ((conv => whnf); simp (disch := omega) only [Int.cast_ofNat_Int, Int.reduceToNat, iI_tt, Int.toNat_natCast, iI_add, iI_sub, iI_mul, iI_neg, lI_add, lI_sub, lI_mul, lI_neg, i2l_, l2i_, iI_lt, iI_le, iI_eq, lI_lt, lI_le, lI_eq, iI_lt0, iI_le0, iI_0lt, iI_0le, iI_eq0, iI_eq1, lI_lt0, lI_le0, lI_0lt, lI_0le, lI_eq0, ix_cl, ix_iff, upd_iI, updL_lI, lI_divF, lI_remF, iI_divF, iI_remF, em_eq, Int.not_lt, Int.not_le, true_implies, false_implies, and_true, true_and, not_true_eq_false, not_false_eq_true, true_or, or_true, or_false, false_or])); (conv => whnf)))
    · have e3 : 0 ≤ v ∧ v < md i.toNat := by rcases hv with hv | hv <;> omega
      refine c_Mm_puts h0 (by omega) i0 (by omega) ?_
      (repeat ((conv => whnf); simp (disch := omega) only [Int.cast_ofNat_Int, Int.reduceToNat, iI_tt, Int.toNat_natCast, iI_add, iI_sub, iI_mul, iI_neg, lI_add, lI_sub, lI_mul, lI_neg, i2l_, l2i_, iI_lt, iI_le, iI_eq, lI_lt, lI_le, lI_eq, iI_lt0, iI_le0, iI_0lt, iI_0le, iI_eq0, iI_eq1, lI_lt0, lI_le0, lI_0lt, lI_0le, lI_eq0, ix_cl, ix_iff, upd_iI, updL_lI, lI_divF, lI_remF, iI_divF, iI_remF, em_eq, Int.not_lt, Int.not_le, true_implies, false_implies, and_true, true_and, not_true_eq_false, not_false_eq_true, true_or, or_true, or_false, false_or])); (conv => whnf)
      have hs := (SameR.rf s rs' r).pt (k := i) (v := v) h0 i0 (by omega)
      have hr : RowIs (ptS s r i v) (ptR rs' r i v) r n md (num r.toNat + (v - num r.toNat % md i.toNat) * wt i.toNat) := by
        intro j hj9
        rw [rd_pt h0 i0 (by omega) h0 (by omega) (by omega)]
        by_cases e : (j : Int) = i
        · rw [if_pos ⟨rfl, e⟩, show j = i.toNat by omega]
          exact (nw_own hq (by omega) e3.1 e3.2).symm
        · rw [if_neg (by omega), nw_other hq hj9 (by omega) (by omega)]
          exact hq.row h0 h8 j hj9
      refine c_Mm_acts (hs.rb (by omega) hq.rb) hq.rm hq.cop h0 (by omega) hr ?_
      (repeat ((conv => whnf); simp (disch := omega) only [Int.cast_ofNat_Int, Int.reduceToNat, iI_tt, Int.toNat_natCast, iI_add, iI_sub, iI_mul, iI_neg, lI_add, lI_sub, lI_mul, lI_neg, i2l_, l2i_, iI_lt, iI_le, iI_eq, lI_lt, lI_le, lI_eq, iI_lt0, iI_le0, iI_0lt, iI_0le, iI_eq0, iI_eq1, lI_lt0, lI_le0, lI_0lt, lI_0le, lI_eq0, ix_cl, ix_iff, upd_iI, updL_lI, lI_divF, lI_remF, iI_divF, iI_remF, em_eq, Int.not_lt, Int.not_le, true_implies, false_implies, and_true, true_and, not_true_eq_false, not_false_eq_true, true_or, or_true, or_false, false_or])); (conv => whnf)
      rw [hq.wh, hq.rg]
      refine t9 i.toNat v (by omega) (fun j hj9 => hj j (by omega)) hv (by omega) _ _ ?_
      have e4 : nin (nwR wh (md i.toNat) (wt i.toNat) (num r.toNat) v) wh = nin (num r.toNat + (v - num r.toNat % md i.toNat) * wt i.toNat) wh := nin_nin _ _
      rw [e4]
      exact RR_fn (RR_put (by omega) h0 h8 (fun k hk => hq.dvd hk) hs hr hq.1)
    · refine GO_take 3 (ih (i + 1) rs' (by omega) (by omega) (fun k hk => ?_))
      by_cases e : (k : Int) = i
      · rw [show k = i.toNat by omega]
        exact fun hh => e1.mp hh (by omega)
      · exact hj k (by omega)
theorem c_Mm_mendsNow {d mc ms : Nat} {t0 pm ik il ec eo fr tt tk vl tn sts ops opn tp ip ol : Int} {s dr kp ps rs stm op wi pu nb ou : Nat → Int} {f : Nat → Int32} {n ck st wh rg : Int} {md wt num acc : Nat → Int} {K : Option Value → PW → Prop} {KX : String → PW → Prop} {r : Int} (hq : QOk s n ck st wh rg md wt num acc) (h0 : 0 ≤ r) (h8 : r < 8)
    (f9 : (fitP rg (num r.toNat) ∨ ∀ k : Nat, (k : Int) < n → ¬ fltB wh rg md wt (num r.toNat) k = true) → ∀ s' rs', RR s' n ck st md num (bk acc 3) → K (some (.int (iI 3))) (mmW t0 (s') dr kp ps pm ik (rs') f il ec eo fr tt tk vl tn stm sts op wi ops opn tp pu ip nb ou ol))
    (t9 : ¬ fitP rg (num r.toNat) → ∀ (k : Nat) (v : Int), (k : Int) < n → (∀ j : Nat, j < k → ¬ fltB wh rg md wt (num r.toNat) j = true) → SrP wh rg (md k) (wt k) (num r.toNat) v → ¬ v = -1 → ∀ s' rs', RR s' n ck st md (upI num r.toNat (nin (nwR wh (md k) (wt k) (num r.toNat) v) wh)) (finA rg (nin (nwR wh (md k) (wt k) (num r.toNat) v) wh) acc) → K (some (.int (iI 0))) (mmW t0 (s') dr kp ps pm ik (rs') f il ec eo fr tt tk vl tn stm sts op wi ops opn tp pu ip nb ou ol)) : WQ M_Mm_mendsNow (d + 7) mc ms [.ref 0, .int (iI r)] (mmW t0 s dr kp ps pm ik rs f il ec eo fr tt tk vl tn stm sts op wi ops opn tp pu ip nb ou ol) K KX := by
  have h6 := hq.rm.1
  refine methC (pf_Mm rfl) (tz_Mm rfl) rfl ?_
  refine run k_Mm_mendsNow [16] 900 ?_
  (repeat ((conv => whnf); simp (disch := omega) only [Int.cast_ofNat_Int, Int.reduceToNat, iI_tt, Int.toNat_natCast, iI_add, iI_sub, iI_mul, iI_neg, lI_add, lI_sub, lI_mul, lI_neg, i2l_, l2i_, iI_lt, iI_le, iI_eq, lI_lt, lI_le, lI_eq, iI_lt0, iI_le0, iI_0lt, iI_0le, iI_eq0, iI_eq1, lI_lt0, lI_le0, lI_0lt, lI_0le, lI_eq0, ix_cl, ix_iff, upd_iI, updL_lI, lI_divF, lI_remF, iI_divF, iI_remF, em_eq, Int.not_lt, Int.not_le, true_implies, false_implies, and_true, true_and, not_true_eq_false, not_false_eq_true, true_or, or_true, or_false, false_or])); (conv => whnf)
  refine cQ_soundNow hq h0 h8 (fun hh => ?_) (fun hh => ?_)
  · (repeat ((conv => whnf); simp (disch := omega) only [Int.cast_ofNat_Int, Int.reduceToNat, iI_tt, Int.toNat_natCast, iI_add, iI_sub, iI_mul, iI_neg, lI_add, lI_sub, lI_mul, lI_neg, i2l_, l2i_, iI_lt, iI_le, iI_eq, lI_lt, lI_le, lI_eq, iI_lt0, iI_le0, iI_0lt, iI_0le, iI_eq0, iI_eq1, lI_lt0, lI_le0, lI_0lt, lI_0le, lI_eq0, ix_cl, ix_iff, upd_iI, updL_lI, lI_divF, lI_remF, iI_divF, iI_remF, em_eq, Int.not_lt, Int.not_le, true_implies, false_implies, and_true, true_and, not_true_eq_false, not_false_eq_true, true_or, or_true, or_false, false_or])); (conv => whnf)
    repeat' ((first | (refine ⟨fun _ => ?_, fun hb => absurd hb (by omega)⟩) | (refine ⟨fun hb => absurd hb (by omega), fun _ => ?_⟩) | (refine ⟨by omega, ?_⟩) | (refine ⟨⟨by omega, (by (conv => whnf); exact trivial)⟩, ?_⟩) | (refine ⟨(Nat.le_of_ble_eq_true rfl), bWp_ok _ (by (conv => whnf); exact trivial), ?_⟩) | (refine ⟨fun _ => ?_, fun _ => ?_⟩) | fail) <;> ((repeat ((conv => whnf); simp (disch := omega) only [Int.cast_ofNat_Int, Int.reduceToNat, iI_tt, Int.toNat_natCast, iI_add, iI_sub, iI_mul, iI_neg, lI_add, lI_sub, lI_mul, lI_neg, i2l_, l2i_, iI_lt, iI_le, iI_eq, lI_lt, lI_le, lI_eq, iI_lt0, iI_le0, iI_0lt, iI_0le, iI_eq0, iI_eq1, lI_lt0, lI_le0, lI_0lt, lI_0le, lI_eq0, ix_cl, ix_iff, upd_iI, updL_lI, lI_divF, lI_remF, iI_divF, iI_remF, em_eq, Int.not_lt, Int.not_le, true_implies, false_implies, and_true, true_and, not_true_eq_false, not_false_eq_true, true_or, or_true, or_false, false_or])); (conv => whnf)))
    refine c_Mm_refuses (by omega) (by omega) ?_
    (repeat ((conv => whnf); simp (disch := omega) only [Int.cast_ofNat_Int, Int.reduceToNat, iI_tt, Int.toNat_natCast, iI_add, iI_sub, iI_mul, iI_neg, lI_add, lI_sub, lI_mul, lI_neg, i2l_, l2i_, iI_lt, iI_le, iI_eq, lI_lt, lI_le, lI_eq, iI_lt0, iI_le0, iI_0lt, iI_0le, iI_eq0, iI_eq1, lI_lt0, lI_le0, lI_0lt, lI_0le, lI_eq0, ix_cl, ix_iff, upd_iI, updL_lI, lI_divF, lI_remF, iI_divF, iI_remF, em_eq, Int.not_lt, Int.not_le, true_implies, false_implies, and_true, true_and, not_true_eq_false, not_false_eq_true, true_or, or_true, or_false, false_or])); (conv => whnf)
    exact f9 (Or.inl hh) _ _ (RR_ct (a := 3) (by omega) (by omega) hq.1)
  · (repeat ((conv => whnf); simp (disch := omega) only [Int.cast_ofNat_Int, Int.reduceToNat, iI_tt, Int.toNat_natCast, iI_add, iI_sub, iI_mul, iI_neg, lI_add, lI_sub, lI_mul, lI_neg, i2l_, l2i_, iI_lt, iI_le, iI_eq, lI_lt, lI_le, lI_eq, iI_lt0, iI_le0, iI_0lt, iI_0le, iI_eq0, iI_eq1, lI_lt0, lI_le0, lI_0lt, lI_0le, lI_eq0, ix_cl, ix_iff, upd_iI, updL_lI, lI_divF, lI_remF, iI_divF, iI_remF, em_eq, Int.not_lt, Int.not_le, true_implies, false_implies, and_true, true_and, not_true_eq_false, not_false_eq_true, true_or, or_true, or_false, false_or])); (conv => whnf)
    repeat' ((first | (refine ⟨fun _ => ?_, fun hb => absurd hb (by omega)⟩) | (refine ⟨fun hb => absurd hb (by omega), fun _ => ?_⟩) | (refine ⟨by omega, ?_⟩) | (refine ⟨⟨by omega, (by (conv => whnf); exact trivial)⟩, ?_⟩) | (refine ⟨(Nat.le_of_ble_eq_true rfl), bWp_ok _ (by (conv => whnf); exact trivial), ?_⟩) | (refine ⟨fun _ => ?_, fun _ => ?_⟩) | fail) <;> ((repeat ((conv => whnf); simp (disch := omega) only [Int.cast_ofNat_Int, Int.reduceToNat, iI_tt, Int.toNat_natCast, iI_add, iI_sub, iI_mul, iI_neg, lI_add, lI_sub, lI_mul, lI_neg, i2l_, l2i_, iI_lt, iI_le, iI_eq, lI_lt, lI_le, lI_eq, iI_lt0, iI_le0, iI_0lt, iI_0le, iI_eq0, iI_eq1, lI_lt0, lI_le0, lI_0lt, lI_0le, lI_eq0, ix_cl, ix_iff, upd_iI, updL_lI, lI_divF, lI_remF, iI_divF, iI_remF, em_eq, Int.not_lt, Int.not_le, true_implies, false_implies, and_true, true_and, not_true_eq_false, not_false_eq_true, true_or, or_true, or_false, false_or])); (conv => whnf)))
    exact lq_mn (rs := rs) hq h0 h8 hh (fun h9 => f9 (Or.inr h9)) (fun k v => t9 hh k v) n.toNat 0 rs (by omega) (by omega) (fun k hk => by omega)
theorem c_Mm_scales {d mc ms : Nat} {t0 pm ik il ec eo fr tt tk vl tn sts ops opn tp ip ol : Int} {s dr kp ps rs stm op wi pu nb ou : Nat → Int} {f : Nat → Int32} {n ck st wh rg : Int} {md wt num acc : Nat → Int} {K : Option Value → PW → Prop} {KX : String → PW → Prop} {r k : Int} (hq : QOk s n ck st wh rg md wt num acc) (h0 : 0 ≤ r) (h8 : r < 8) (k0 : 0 ≤ k) (kn : k < n)
    (t9 : rfsB st rg wh (num r.toNat / md k.toNat) = true → ∀ s' rs', RR s' n ck st md num (bk acc 2) → K (some (.int (iI 2))) (mmW t0 (s') dr kp ps pm ik (rs') f il ec eo fr tt tk vl tn stm sts op wi ops opn tp pu ip nb ou ol))
    (f9 : ¬ rfsB st rg wh (num r.toNat / md k.toNat) = true → ∀ s' rs', RR s' n ck st md (upI num r.toNat (nin (num r.toNat / md k.toNat) wh)) (finA rg (nin (num r.toNat / md k.toNat) wh) acc) → K (some (.int (iI 0))) (mmW t0 (s') dr kp ps pm ik (rs') f il ec eo fr tt tk vl tn stm sts op wi ops opn tp pu ip nb ou ol)) : WQ M_Mm_scales (d + 7) mc ms [.ref 0, .int (iI r), .int (iI k)] (mmW t0 s dr kp ps pm ik rs f il ec eo fr tt tk vl tn stm sts op wi ops opn tp pu ip nb ou ol) K KX := by
  have h6 := hq.rm.1
  have hk := hq.rm.2 k.toNat (by omega)
  have hr := hq.mb.2.2 r.toNat (by omega)
  have hst := hq.2.2
  have es2 : s 2 = st := hq.1.1.2.2
  have e1 : (num r.toNat).fdiv (md k.toNat) = num r.toNat / md k.toNat := Int.fdiv_eq_ediv_of_nonneg _ (by omega)
  have e2 : -1000000000 ≤ num r.toNat / md k.toNat ∧ num r.toNat / md k.toNat ≤ 1000000000 := by
    have := Int.natAbs_fdiv_le_natAbs (num r.toNat) (md k.toNat)
    rw [e1] at this
    omega
  refine methC (pf_Mm rfl) (tz_Mm rfl) rfl ?_
  refine run k_Mm_scales [] 900 ?_
  (repeat ((conv => whnf); simp (disch := omega) only [Int.cast_ofNat_Int, Int.reduceToNat, iI_tt, Int.toNat_natCast, iI_add, iI_sub, iI_mul, iI_neg, lI_add, lI_sub, lI_mul, lI_neg, i2l_, l2i_, iI_lt, iI_le, iI_eq, lI_lt, lI_le, lI_eq, iI_lt0, iI_le0, iI_0lt, iI_0le, iI_eq0, iI_eq1, lI_lt0, lI_le0, lI_0lt, lI_0le, lI_eq0, ix_cl, ix_iff, upd_iI, updL_lI, lI_divF, lI_remF, iI_divF, iI_remF, em_eq, Int.not_lt, Int.not_le, true_implies, false_implies, and_true, true_and, not_true_eq_false, not_false_eq_true, true_or, or_true, or_false, false_or])); (conv => whnf)
  refine cQ_numberOf hq h0 h8 ?_
  (repeat ((conv => whnf); simp (disch := omega) only [Int.cast_ofNat_Int, Int.reduceToNat, iI_tt, Int.toNat_natCast, iI_add, iI_sub, iI_mul, iI_neg, lI_add, lI_sub, lI_mul, lI_neg, i2l_, l2i_, iI_lt, iI_le, iI_eq, lI_lt, lI_le, lI_eq, iI_lt0, iI_le0, iI_0lt, iI_0le, iI_eq0, iI_eq1, lI_lt0, lI_le0, lI_0lt, lI_0le, lI_eq0, ix_cl, ix_iff, upd_iI, updL_lI, lI_divF, lI_remF, iI_divF, iI_remF, em_eq, Int.not_lt, Int.not_le, true_implies, false_implies, and_true, true_and, not_true_eq_false, not_false_eq_true, true_or, or_true, or_false, false_or])); (conv => whnf)
  refine c_Mm_mod hq.rb k0 kn (by omega) ?_
  (repeat ((conv => whnf); simp (disch := omega) only [Int.cast_ofNat_Int, Int.reduceToNat, iI_tt, Int.toNat_natCast, iI_add, iI_sub, iI_mul, iI_neg, lI_add, lI_sub, lI_mul, lI_neg, i2l_, l2i_, iI_lt, iI_le, iI_eq, lI_lt, lI_le, lI_eq, iI_lt0, iI_le0, iI_0lt, iI_0le, iI_eq0, iI_eq1, lI_lt0, lI_le0, lI_0lt, lI_0le, lI_eq0, ix_cl, ix_iff, upd_iI, updL_lI, lI_divF, lI_remF, iI_divF, iI_remF, em_eq, Int.not_lt, Int.not_le, true_implies, false_implies, and_true, true_and, not_true_eq_false, not_false_eq_true, true_or, or_true, or_false, false_or])); (conv => whnf)
  refine c_Mm_floored ⟨by omega, by omega⟩ (by omega) ⟨by omega, by omega⟩ ?_
  (repeat ((conv => whnf); simp (disch := omega) only [Int.cast_ofNat_Int, Int.reduceToNat, iI_tt, Int.toNat_natCast, iI_add, iI_sub, iI_mul, iI_neg, lI_add, lI_sub, lI_mul, lI_neg, i2l_, l2i_, iI_lt, iI_le, iI_eq, lI_lt, lI_le, lI_eq, iI_lt0, iI_le0, iI_0lt, iI_0le, iI_eq0, iI_eq1, lI_lt0, lI_le0, lI_0lt, lI_0le, lI_eq0, ix_cl, ix_iff, upd_iI, updL_lI, lI_divF, lI_remF, iI_divF, iI_remF, em_eq, Int.not_lt, Int.not_le, true_implies, false_implies, and_true, true_and, not_true_eq_false, not_false_eq_true, true_or, or_true, or_false, false_or])); (conv => whnf)
  rw [e1]
  refine c_Mm_tells hq.rb hq.rm (by omega) (by omega) ⟨by omega, by omega⟩ (fun s' rs' hs hrow => ?_)
  have es : s' = s := hs.2.2.1 (by omega)
  subst es
  have fin : ∀ w9 : Int, w9 = (if rfsB st rg wh (num r.toNat / md k.toNat) = true then 2 else 0) → WQ M_Mm_laysInto (d + 6) 0 0 [.ref 0, .int (iI r), .int (iI w9)] (mmW t0 (s') dr kp ps pm ik (rs') f il ec eo fr tt tk vl tn stm sts op wi ops opn tp pu ip nb ou ol) K KX := by
    intro w9 hw9
    refine c_Mm_laysInto hq.rb hq.rm hq.cop h0 h8 (by split at hw9 <;> omega) (by split at hw9 <;> omega) (fun _ => hrow) (fun hz => ?_) (fun hz s2 hs2 hr2 => ?_)
    · by_cases hf : rfsB st rg wh (num r.toNat / md k.toNat) = true
      · rw [if_pos hf] at hw9
        subst hw9
        exact t9 hf _ _ (RR_ct (a := 2) (by omega) (by omega) hq.1)
      · rw [if_neg hf] at hw9
        omega
    · by_cases hf : rfsB st rg wh (num r.toNat / md k.toNat) = true
      · rw [if_pos hf] at hw9
        omega
      · rw [hq.wh, hq.rg]
        exact f9 hf _ _ (RR_fn (RR_put (by omega) h0 h8 (fun k hk => hq.dvd hk) hs2 hr2 hq.1))
  have fin2 : ∀ w9 : Int, w9 = (if rfsB st rg wh (num r.toNat / md k.toNat) = true then 2 else 0) → WQ M_Mm_laysInto (d + 6) 0 0 [.ref 0, .int (iI r), .int (iI w9)] (mmW t0 (s') dr kp ps pm ik (rs') f il ec eo fr tt tk vl tn stm sts op wi ops opn tp pu ip nb ou ol) (kR (fun mc ms pc ls st w => match inC [] pc with
      | true => GO M_Mm_scales (d + 7) mc ms pc ls st w K KX
      | false => RN M_Mm_scales T_Mm_scales [] (d + 7) K KX 891 mc ms pc ls st w) mc ms 49 [some (.ref 0), some (.int (iI r)), some (.int (iI k))] []) KX := by
    skip
    sorry
  skip
  sorry
