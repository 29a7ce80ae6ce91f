/-! THE LAW: the text is read -/
theorem ev_at {i : Int} {ps : List Int} {a ck st : Int} (i3 : 3 ≤ i) (i5 : i ≤ 5) (hR : (ps, a) ∈ reach i.toNat) (c0 : 0 ≤ ck) (c2 : ck ≤ 2) (s0 : 0 ≤ st) (s1 : st ≤ 1) : okE (setupE (bT (txF ps ck st)) (txF ps ck st).length) = true := by
  have he : evs (reach i.toNat) = true := by
    have hc : i = 3 ∨ i = 4 ∨ i = 5 := by omega
    rcases hc with rfl | rfl | rfl
    · exact ev_3
    · exact ev_4
    · exact ev_5
  unfold evs at he
  have h1 := List.all_eq_true.mp he (ps, a) hR
  have h2 := List.all_eq_true.mp h1 ck (by
    have hc : ck = 0 ∨ ck = 1 ∨ ck = 2 := by omega
    rcases hc with rfl | rfl | rfl <;> decide)
  exact List.all_eq_true.mp h2 st (by
    have hc : st = 0 ∨ st = 1 := by omega
    rcases hc with rfl | rfl <;> decide)
theorem bT_of {T : List Int} {h : Nat → Int} (hB : BB h) (hO : OW T h T.length) (hl : T.length ≤ 40) (hl2 : 20 < T.length) : bA (apF (apF (fun _ => 0) (chF T.length h) 0) (chF T.length h) 20) = bT T := by
  funext j
  have hk : ∀ c : Int, 0 ≤ c → c ≤ 127 → (iI c &&& iI 255).toInt = c := fun c h0 h1 => by
    have h2 := (and_fin ⟨c.toNat, by omega⟩).1
    simp only at h2
    rw [show ((c.toNat : Nat) : Int) = c by omega] at h2
    rw [h2, iI_tt ⟨by omega, by omega⟩]
  unfold bA apF bT
  by_cases e : j < 40
  · have hc : (if 20 ≤ j ∧ j < 20 + 20 then iI (chF T.length h j) else if 0 ≤ j ∧ j < 0 + 20 then iI (chF T.length h j) else 0) = iI (chF T.length h j) := by
      by_cases e2 : 20 ≤ j
      · rw [if_pos ⟨e2, by omega⟩]
      · rw [if_neg (by omega), if_pos ⟨by omega, by omega⟩]
    rw [hc, hk _ (chF_b hB j).1 (chF_b hB j).2]
    unfold chF
    by_cases e3 : j < T.length
    · rw [if_pos e3, if_pos e3, List.getD_eq_getElem?_getD, List.getElem?_eq_getElem e3]
      exact hO.2 j _ (List.getElem?_eq_getElem e3)
    · rw [if_neg e3, if_neg e3, if_pos e]
  · rw [if_neg (by omega), if_neg (by omega), if_neg (by omega), if_neg e]
    show ((0 : Int32) &&& iI 255).toInt = 0
    decide +kernel
theorem MOk_cong {n ck wh rg : Int} {md wt num md' wt' num' : Nat → Int} (h : MOk n ck wh rg md wt num) (e1 : ∀ k : Nat, (k : Int) < n → md' k = md k) (e2 : ∀ k : Nat, (k : Int) < n → wt' k = wt k) (e3 : ∀ r : Nat, r < 8 → num' r = num r) : MOk n ck wh rg md' wt' num' := by
  obtain ⟨⟨b1, b2, b3⟩, m2, m3, m4, m5, m6, m7⟩ := h
  refine ⟨⟨b1, fun k hk => ?_, fun r hr => ?_⟩, m2, ?_, ?_, fun j k hjk hk => ?_, fun k hk => ?_, fun r hr => ?_⟩
  · rw [e1 k hk, e2 k hk]
    exact b2 k hk
  · rw [e3 r hr]
    exact b3 r hr
  · rw [m3]
    exact PN_cong _ (fun k hk => (e1 k (by omega)).symm)
  · rw [m4]
    exact PN_cong _ (fun k hk => (e1 k (by omega)).symm)
  · rw [e1 j (by omega), e1 k hk]
    exact m5 j k hjk hk
  · obtain ⟨r, h1, h2⟩ := m6 k hk
    exact ⟨r, by rw [e1 k hk]; exact h1, by rw [e2 k hk, e1 k hk]; exact h2⟩
  · rw [e3 r hr]
    exact m7 r hr
theorem MOk_cp {n ck wh rg : Int} {md wt num a b c : Nat → Int} (h : MOk n ck wh rg md wt num) : MOk n ck wh rg (cpyF 6 md a) (cpyF 6 wt b) (cpyF 8 num c) := by
  have hb := h.1.1
  refine MOk_cong h (fun k hk => ?_) (fun k hk => ?_) (fun r hr => ?_)
  · unfold cpyF
    rw [if_pos (by omega)]
  · unfold cpyF
    rw [if_pos (by omega)]
  · unfold cpyF
    rw [if_pos (by omega)]
theorem l_loaded {d : Nat} {b9 : va_E} {f : Nat → Int32} {il hs nx cz sm sh le lo cn ml : Int} {m1 m2 m3 : MS} {rf : Nat → Option Nat} {sl : Nat → MS} {t1 t2 : TS} {pg : PS} {sv : Nat} {K : Option Value → PW → Prop} {KX : String → PW → Prop} {mb : Int} {g0 g h : Nat → Int} {i : Int} {ps : List Int} {a c9 s9 : Int} (hrf : ∀ j q, rf j = some q → q < 76) (i3 : 3 ≤ i) (i5 : i ≤ 5) (hR : (ps, a) ∈ reach i.toNat) (c0 : 0 ≤ c9) (c2 : c9 ≤ 2) (s0 : 0 ≤ s9) (s1 : s9 ≤ 1) (hB : BB h) (hO : OW (txF ps c9 s9) h (txF ps c9 s9).length) (hl : (txF ps c9 s9).length ≤ 40) (hl2 : 20 < (txF ps c9 s9).length)
    (hK : ∀ (n ck st wh rg : Int) (md wt num acc : Nat → Int) (f' : Nat → Int32) (m2' : MS) (t1' : TS) (v0 v1 : Nat → Int32), QOk z0 n ck st wh rg md wt num acc → 3 ≤ n → ck ≤ 2 → (∀ r : Nat, r < 8 → num r = 0) → (∀ a : Nat, a < 8 → acc a = 0) → K (some (.int (iI n))) (rW (f') (0) (mkM n ck st wh rg md wt num acc) (m2') m3 (0) nx (0) rf sl (t1') t2 sm sh pg (0) (-1) (92) cn ml (byt 16 z0) (tl9 mb (txF ps c9 s9).length g0 g h [.inl (1, 5, .inl v0), .inl (1, 5, .inl v1)]))) :
    WQ M_Lw_loaded (d + 10) 3 15 [.ref 0, .ref 97] (rW (fun _ => 0) (0) m1 m2 m3 hs nx cz rf sl t1 t2 sm sh pg le lo (92) cn ml (byt 16 z0) (tl9 mb (txF ps c9 s9).length g0 g h [])) K KX := by
  have hev := ev_at i3 i5 hR c0 c2 s0 s1
  rw [← bT_of hB hO hl hl2] at hev
  refine methC (pf_Lw rfl) (tz_Lw rfl) rfl ?_
  refine run k_Lw_loaded [] 900 ?_
  (repeat ((conv => whnf); simp (disch := omega) only [Int.cast_ofNat_Int, Int.reduceToNat, iI_tt, Int.toNat_natCast, iI_add, iI_sub, iI_mul, iI_neg, lI_add, lI_sub, lI_mul, lI_neg, i2l_, l2i_, iI_lt, iI_le, iI_eq, lI_lt, lI_le, lI_eq, iI_lt0, iI_le0, iI_0lt, iI_0le, iI_eq0, iI_eq1, lI_lt0, lI_le0, lI_0lt, lI_0le, lI_eq0, ix_cl, ix_iff, upd_iI, updL_lI, lI_divF, lI_remF, iI_divF, iI_remF, em_eq, Int.not_lt, Int.not_le, true_implies, false_implies, and_true, true_and, not_true_eq_false, not_false_eq_true, true_or, or_true, or_false, false_or])); (conv => whnf)
  repeat' ((first | (refine ⟨fun _ => ?_, fun hb => absurd hb (by omega)⟩) | (refine ⟨fun hb => absurd hb (by omega), fun _ => ?_⟩) | (refine ⟨by omega, ?_⟩) | (refine ⟨⟨by omega, (by (conv => whnf); exact trivial)⟩, ?_⟩) | (refine ⟨(Nat.le_of_ble_eq_true rfl), bWp_ok _ (by (conv => whnf); exact trivial), ?_⟩) | (refine ⟨fun _ => ?_, fun _ => ?_⟩) | fail) <;> ((repeat ((conv => whnf); simp (disch := omega) only [Int.cast_ofNat_Int, Int.reduceToNat, iI_tt, Int.toNat_natCast, iI_add, iI_sub, iI_mul, iI_neg, lI_add, lI_sub, lI_mul, lI_neg, i2l_, l2i_, iI_lt, iI_le, iI_eq, lI_lt, lI_le, lI_eq, iI_lt0, iI_le0, iI_0lt, iI_0le, iI_eq0, iI_eq1, lI_lt0, lI_le0, lI_0lt, lI_0le, lI_eq0, ix_cl, ix_iff, upd_iI, updL_lI, lI_divF, lI_remF, iI_divF, iI_remF, em_eq, Int.not_lt, Int.not_le, true_implies, false_implies, and_true, true_and, not_true_eq_false, not_false_eq_true, true_or, or_true, or_false, false_or])); (conv => whnf)))
  refine l_feeds (mc := 1) (ms := 5) (sv := sv) (il := il) (b9 := b9) hrf hl2 hl hB ?_
  refine ⟨⟨bLob_ok _ rfl, bStb_ok _ rfl⟩, ?_⟩
  (repeat ((conv => whnf); simp (disch := omega) only [Int.cast_ofNat_Int, Int.reduceToNat, iI_tt, Int.toNat_natCast, iI_add, iI_sub, iI_mul, iI_neg, lI_add, lI_sub, lI_mul, lI_neg, i2l_, l2i_, iI_lt, iI_le, iI_eq, lI_lt, lI_le, lI_eq, iI_lt0, iI_le0, iI_0lt, iI_0le, iI_eq0, iI_eq1, lI_lt0, lI_le0, lI_0lt, lI_0le, lI_eq0, ix_cl, ix_iff, upd_iI, updL_lI, lI_divF, lI_remF, iI_divF, iI_remF, em_eq, Int.not_lt, Int.not_le, true_implies, false_implies, and_true, true_and, not_true_eq_false, not_false_eq_true, true_or, or_true, or_false, false_or])); (conv => whnf)
  repeat' ((first | (refine ⟨fun _ => ?_, fun hb => absurd hb (by omega)⟩) | (refine ⟨fun hb => absurd hb (by omega), fun _ => ?_⟩) | (refine ⟨by omega, ?_⟩) | (refine ⟨⟨by omega, (by (conv => whnf); exact trivial)⟩, ?_⟩) | (refine ⟨(Nat.le_of_ble_eq_true rfl), bWp_ok _ (by (conv => whnf); exact trivial), ?_⟩) | (refine ⟨fun _ => ?_, fun _ => ?_⟩) | fail) <;> ((repeat ((conv => whnf); simp (disch := omega) only [Int.cast_ofNat_Int, Int.reduceToNat, iI_tt, Int.toNat_natCast, iI_add, iI_sub, iI_mul, iI_neg, lI_add, lI_sub, lI_mul, lI_neg, i2l_, l2i_, iI_lt, iI_le, iI_eq, lI_lt, lI_le, lI_eq, iI_lt0, iI_le0, iI_0lt, iI_0le, iI_eq0, iI_eq1, lI_lt0, lI_le0, lI_0lt, lI_0le, lI_eq0, ix_cl, ix_iff, upd_iI, updL_lI, lI_divF, lI_remF, iI_divF, iI_remF, em_eq, Int.not_lt, Int.not_le, true_implies, false_implies, and_true, true_and, not_true_eq_false, not_false_eq_true, true_or, or_true, or_false, false_or])); (conv => whnf)))
  refine c_R_loadMill ⟨by omega, by omega⟩ (fun e he => ?_) (fun v hv n ck st wh rg md wt num acc t1' hS => ?_)
  · rw [he] at hev
    cases hev
  · rw [hv] at hev
    unfold okE at hev
    simp only [Bool.and_eq_true, decide_eq_true_eq] at hev
    obtain ⟨⟨h1, h2, h3⟩, h4, h5, h6, h7, h8⟩ := hS
    obtain ⟨v3, vc, vn⟩ := hev
    have hz : ∀ r : Nat, r < 8 → num r = 0 := fun r hr => by
      rw [h5 r hr]
      have := List.all_eq_true.mp vn r (List.mem_range.mpr hr)
      simpa using this
    (repeat ((conv => whnf); simp (disch := omega) only [Int.cast_ofNat_Int, Int.reduceToNat, iI_tt, Int.toNat_natCast, iI_add, iI_sub, iI_mul, iI_neg, lI_add, lI_sub, lI_mul, lI_neg, i2l_, l2i_, iI_lt, iI_le, iI_eq, lI_lt, lI_le, lI_eq, iI_lt0, iI_le0, iI_0lt, iI_0le, iI_eq0, iI_eq1, lI_lt0, lI_le0, lI_0lt, lI_0le, lI_eq0, ix_cl, ix_iff, upd_iI, updL_lI, lI_divF, lI_remF, iI_divF, iI_remF, em_eq, Int.not_lt, Int.not_le, true_implies, false_implies, and_true, true_and, not_true_eq_false, not_false_eq_true, true_or, or_true, or_false, false_or])); (conv => whnf)
    repeat' ((first | (refine ⟨fun _ => ?_, fun hb => absurd hb (by omega)⟩) | (refine ⟨fun hb => absurd hb (by omega), fun _ => ?_⟩) | (refine ⟨by omega, ?_⟩) | (refine ⟨⟨by omega, (by (conv => whnf); exact trivial)⟩, ?_⟩) | (refine ⟨(Nat.le_of_ble_eq_true rfl), bWp_ok _ (by (conv => whnf); exact trivial), ?_⟩) | (refine ⟨fun _ => ?_, fun _ => ?_⟩) | fail) <;> ((repeat ((conv => whnf); simp (disch := omega) only [Int.cast_ofNat_Int, Int.reduceToNat, iI_tt, Int.toNat_natCast, iI_add, iI_sub, iI_mul, iI_neg, lI_add, lI_sub, lI_mul, lI_neg, i2l_, l2i_, iI_lt, iI_le, iI_eq, lI_lt, lI_le, lI_eq, iI_lt0, iI_le0, iI_0lt, iI_0le, iI_eq0, iI_eq1, lI_lt0, lI_le0, lI_0lt, lI_0le, lI_eq0, ix_cl, ix_iff, upd_iI, updL_lI, lI_divF, lI_remF, iI_divF, iI_remF, em_eq, Int.not_lt, Int.not_le, true_implies, false_implies, and_true, true_and, not_true_eq_false, not_false_eq_true, true_or, or_true, or_false, false_or])); (conv => whnf)))
    exact hK n ck st wh rg (cpyF 6 md m1.2.1) (cpyF 6 wt m1.2.2.1) (cpyF 8 num m1.2.2.2.1) (cpyF 8 acc m1.2.2.2.2) _ _ _ _ _ ⟨rfl, MOk_cp h7, h8⟩ (by omega) (by omega) (fun r hr => by
      unfold cpyF
      rw [if_pos (by omega)]
      exact hz r hr) (fun a ha => by
      unfold cpyF
      rw [if_pos (by omega)]
      exact h6 a ha)
