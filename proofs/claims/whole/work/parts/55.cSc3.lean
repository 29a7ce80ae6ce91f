/-! THE CLASS: statements -/
def SOk (c h : Int) (s : S9) : Prop := (s.1.1 = 0 ∧ (0 ≤ s.1.2.1 ∧ s.1.2.1 < 8) ∧ s.1.2.2 = 0 ∧ EV h 15 s.2) ∨ (s.2 = ([], []) ∧ ((s.1.1 = 1 ∧ (0 ≤ s.1.2.1 ∧ s.1.2.1 < 8) ∧ 0 ≤ s.1.2.2 ∧ s.1.2.2 < c) ∨ (s.1.1 = 2 ∧ (0 ≤ s.1.2.1 ∧ s.1.2.1 < 8) ∧ 0 ≤ s.1.2.2 ∧ s.1.2.2 < 8) ∨ (s.1.1 = 3 ∧ (0 ≤ s.1.2.1 ∧ s.1.2.1 < 8) ∧ s.1.2.2 = 0) ∨ (s.1.1 = 4 ∧ (0 ≤ s.1.2.1 ∧ s.1.2.1 ≤ 1) ∧ s.1.2.2 = 0)))
theorem rgE_ok {b : Nat → Int} {n p : Int} {v : Int × Int} (pn : p ≤ n) (h : rgE b n p = .inr v) : (p < v.2 ∧ v.2 ≤ n) ∧ (0 ≤ v.1 ∧ v.1 < 8) := by
  unfold rgE at h
  split at h
  · next hk =>
    have h1 := nx_lt (b := b) (n := n) (p := p) pn (by omega)
    have h2 := amt_reg hk
    cases h
    exact ⟨h1, h2.2⟩
  · cases h
theorem upE_ok {b : Nat → Int} {n g p : Int} {v : Int × Int} (p0 : 0 ≤ p) (pn : p ≤ n) (h : upE b n g p = .inr v) : (p < v.2 ∧ v.2 ≤ n) ∧ (0 ≤ v.1 ∧ v.1 ≤ g) := by
  have ha := amt_b (b := b) p0 pn
  unfold upE at h
  split at h
  · next hk =>
    have h1 := nx_lt (b := b) (n := n) (p := p) pn (by omega)
    split at h
    · next h2 =>
      cases h
      exact ⟨h1, ha.1, h2⟩
    · cases h
  · cases h
theorem stmE_ok {b : Nat → Int} {n c h p : Int} {v : S9 × Int} (p0 : 0 ≤ p) (pn : p ≤ n) (hv : stmE b n c h p = .inr v) : (p < v.2 ∧ v.2 ≤ n) ∧ (((stC v.1).length : Int) ≤ 2 * (v.2 - p) ∧ (v.1.2.2.length : Int) ≤ v.2 - p) ∧ SOk c h v.1 := by
  have hl : ∀ x : Int × Int × Int, ((stC (x, ([], []))).length : Int) = 1 := fun x => rfl
  unfold stmE at hv
  split at hv
  · next hk =>
    have h1 := nx_lt (b := b) (n := n) (p := p) pn (by omega)
    have h2 := amt_reg hk
    obtain ⟨p1, e1, hv1⟩ := bnE_ok hv
    obtain ⟨w, e2, hv2⟩ := bnE_ok hv1
    clear hv hv1
    unfold tkE at e1
    split at e1
    · next hk2 =>
      have h3 := nx_lt (b := b) (n := n) (p := nx b n p) h1.2 (by omega)
      cases e1
      obtain ⟨a1, a2, a3⟩ := (GF.fc (b := b) (n := n) (h := h) 6).su (b := b) _ w (by omega) h3.2 e2
      cases hv2
      refine ⟨⟨by show p < w.2; omega, a1.2⟩, ⟨?_, by show ((w.1.2.length : Nat) : Int) ≤ w.2 - p; omega⟩, Or.inl ⟨rfl, h2.2, rfl, a3.mono (by omega)⟩⟩
      show ((w.1.1 ++ [_]).length : Int) ≤ 2 * (w.2 - p)
      rw [List.length_append, List.length_singleton]
      omega
    · cases e1
  · split at hv
    · next hk =>
      have h1 := nx_lt (b := b) (n := n) (p := p) pn (by omega)
      obtain ⟨w, e2, hv⟩ := bnE_ok hv
      obtain ⟨a1, a2⟩ := upE_ok (by omega) h1.2 e2
      cases hv
      refine ⟨⟨by show p < w.2; omega, a1.2⟩, ⟨by show (1 : Int) ≤ 2 * (w.2 - p); omega, by show (0 : Int) ≤ w.2 - p; omega⟩, Or.inr ⟨rfl, Or.inr (Or.inr (Or.inr ⟨rfl, a2, rfl⟩))⟩⟩
    · split at hv
      · next hk =>
        have h1 := nx_lt (b := b) (n := n) (p := p) pn (by omega)
        obtain ⟨r, e1, hv⟩ := bnE_ok hv
        obtain ⟨w, e2, hv⟩ := bnE_ok hv
        obtain ⟨b1, b2⟩ := rgE_ok h1.2 e1
        obtain ⟨a1, a2⟩ := upE_ok (by omega) b1.2 e2
        cases hv
        refine ⟨⟨by show p < w.2; omega, a1.2⟩, ⟨by show (1 : Int) ≤ 2 * (w.2 - p); omega, by show (0 : Int) ≤ w.2 - p; omega⟩, Or.inr ⟨rfl, Or.inl ⟨rfl, b2, a2.1, by show w.1 < c; omega⟩⟩⟩
      · split at hv
        · next hk =>
          have h1 := nx_lt (b := b) (n := n) (p := p) pn (by omega)
          obtain ⟨r, e1, hv⟩ := bnE_ok hv
          obtain ⟨w, e2, hv⟩ := bnE_ok hv
          obtain ⟨b1, b2⟩ := rgE_ok h1.2 e1
          obtain ⟨a1, a2⟩ := rgE_ok b1.2 e2
          cases hv
          refine ⟨⟨by show p < w.2; omega, a1.2⟩, ⟨by show (1 : Int) ≤ 2 * (w.2 - p); omega, by show (0 : Int) ≤ w.2 - p; omega⟩, Or.inr ⟨rfl, Or.inr (Or.inl ⟨rfl, b2, a2⟩)⟩⟩
        · split at hv
          · next hk =>
            have h1 := nx_lt (b := b) (n := n) (p := p) pn (by omega)
            obtain ⟨r, e1, hv⟩ := bnE_ok hv
            obtain ⟨b1, b2⟩ := rgE_ok h1.2 e1
            cases hv
            refine ⟨⟨by show p < r.2; omega, b1.2⟩, ⟨by show (1 : Int) ≤ 2 * (r.2 - p); omega, by show (0 : Int) ≤ r.2 - p; omega⟩, Or.inr ⟨rfl, Or.inr (Or.inr (Or.inl ⟨rfl, b2, rfl⟩))⟩⟩
          · cases hv
theorem stsC_len {l : List S9} {s : S9} : (stsC (l ++ [s])).length = (stsC l).length + (stC s).length := by
  rw [stsC_add, List.length_append]
theorem stsM_len {l : List S9} {s : S9} : (stsM (l ++ [s])).length = (stsM l).length + s.2.2.length := by
  rw [stsM_add, List.length_append]
/-- what a script is, once it is read -/
def LOk (c h : Int) (l : List S9) (p : Int) : Prop := (∀ s, s ∈ l → SOk c h s) ∧ ((stsC l).length : Int) ≤ 2 * p ∧ ((stsM l).length : Int) ≤ p
theorem LOk.add {b : Nat → Int} {n c h p p2 : Int} {l : List S9} {v : S9 × Int} (hl : LOk c h l p) (p0 : 0 ≤ p) (pn : p ≤ n) (hv : stmE b n c h p = .inr v) (he : tkE b n 59 v.2 = .inr p2) : LOk c h (l ++ [v.1]) p2 ∧ p < p2 ∧ p2 ≤ n := by
  obtain ⟨a1, a2, a3⟩ := stmE_ok p0 pn hv
  unfold tkE at he
  split at he
  · next hk =>
    have h1 := nx_lt (b := b) (n := n) (p := v.2) a1.2 (by omega)
    cases he
    refine ⟨⟨fun s hs => ?_, by rw [stsC_len]; have := hl.2.1; omega, by rw [stsM_len]; have := hl.2.2; omega⟩, by omega, h1.2⟩
    rw [List.mem_append] at hs
    rcases hs with hs | hs
    · exact hl.1 s hs
    · rw [List.mem_singleton] at hs
      rw [hs]
      exact a3
  · cases he
theorem scE_ok {b : Nat → Int} {n c h : Int} : ∀ (q : Nat) (l : List S9) (p : Int) (l' : List S9), 0 ≤ p → p ≤ n → LOk c h l p → l.length + q = 20 → scE b n c h q l p = .inr l' → LOk c h l' n ∧ l'.length ≤ 20
  | 0, l, p, l', p0, pn, hl, hq, he => by
    unfold scE at he
    split at he
    · cases he
      exact ⟨⟨hl.1, by have := hl.2.1; omega, by have := hl.2.2; omega⟩, by omega⟩
    · split at he <;> cases he
  | q + 1, l, p, l', p0, pn, hl, hq, he => by
    unfold scE at he
    split at he
    · cases he
      exact ⟨⟨hl.1, by have := hl.2.1; omega, by have := hl.2.2; omega⟩, by omega⟩
    · obtain ⟨v, e1, he⟩ := bnE_ok he
      obtain ⟨p2, e2, he⟩ := bnE_ok he
      obtain ⟨a1, a2, a3⟩ := LOk.add hl p0 pn e1 e2
      exact scE_ok q _ p2 l' (by omega) a3 a1 (by rw [List.length_append, List.length_singleton]; omega) he
theorem c_Sc_startsStatement {d mc ms : Nat} {w : PW} {K : Option Value → PW → Prop} {KX : String → PW → Prop} {k : Int} (hk : r32 k) (t9 : k = 259 ∨ (264 ≤ k ∧ k ≤ 266) ∨ k = 262 → K (some (.int (iI 1))) w) (f9 : ¬ (k = 259 ∨ (264 ≤ k ∧ k ≤ 266) ∨ k = 262) → K (some (.int (iI 0))) w) : WQ M_Sc_startsStatement d mc ms [.int (iI k)] w K KX := by
  refine methC (pf_Sc rfl) (tz_Sc rfl) rfl ?_
  refine run k_Sc_startsStatement [] 900 ?_
  (repeat ((conv => whnf); simp (disch := omega) only [Int.cast_ofNat_Int, Int.reduceToNat, iI_tt, Int.toNat_natCast, iI_add, iI_sub, iI_mul, iI_neg, lI_add, lI_sub, lI_mul, lI_neg, i2l_, l2i_, iI_lt, iI_le, iI_eq, lI_lt, lI_le, lI_eq, iI_lt0, iI_le0, iI_0lt, iI_0le, iI_eq0, iI_eq1, lI_lt0, lI_le0, lI_0lt, lI_0le, lI_eq0, ix_cl, ix_iff, upd_iI, updL_lI, lI_divF, lI_remF, iI_divF, iI_remF, em_eq, Int.not_lt, Int.not_le, true_implies, false_implies, and_true, true_and, not_true_eq_false, not_false_eq_true, true_or, or_true, or_false, false_or])); (conv => whnf)
  (repeat ((conv => whnf); simp (disch := omega) only [Int.cast_ofNat_Int, Int.reduceToNat, iI_tt, Int.toNat_natCast, iI_add, iI_sub, iI_mul, iI_neg, lI_add, lI_sub, lI_mul, lI_neg, i2l_, l2i_, iI_lt, iI_le, iI_eq, lI_lt, lI_le, lI_eq, iI_lt0, iI_le0, iI_0lt, iI_0le, iI_eq0, iI_eq1, lI_lt0, lI_le0, lI_0lt, lI_0le, lI_eq0, ix_cl, ix_iff, upd_iI, updL_lI, lI_divF, lI_remF, iI_divF, iI_remF, em_eq, Int.not_lt, Int.not_le, true_implies, false_implies, and_true, true_and, not_true_eq_false, not_false_eq_true, true_or, or_true, or_false, false_or])); (conv => whnf)
  repeat' ((first | (refine ⟨fun _ => ?_, fun hb => absurd hb (by omega)⟩) | (refine ⟨fun hb => absurd hb (by omega), fun _ => ?_⟩) | (refine ⟨by omega, ?_⟩) | (refine ⟨⟨by omega, (by (conv => whnf); exact trivial)⟩, ?_⟩) | (refine ⟨(Nat.le_of_ble_eq_true rfl), bWp_ok _ (by (conv => whnf); exact trivial), ?_⟩) | (refine ⟨fun _ => ?_, fun _ => ?_⟩) | fail) <;> ((repeat ((conv => whnf); simp (disch := omega) only [Int.cast_ofNat_Int, Int.reduceToNat, iI_tt, Int.toNat_natCast, iI_add, iI_sub, iI_mul, iI_neg, lI_add, lI_sub, lI_mul, lI_neg, i2l_, l2i_, iI_lt, iI_le, iI_eq, lI_lt, lI_le, lI_eq, iI_lt0, iI_le0, iI_0lt, iI_0le, iI_eq0, iI_eq1, lI_lt0, lI_le0, lI_0lt, lI_0le, lI_eq0, ix_cl, ix_iff, upd_iI, updL_lI, lI_divF, lI_remF, iI_divF, iI_remF, em_eq, Int.not_lt, Int.not_le, true_implies, false_implies, and_true, true_and, not_true_eq_false, not_false_eq_true, true_or, or_true, or_false, false_or])); (conv => whnf)))
  all_goals first | exact t9 (by omega) | exact f9 (by omega)
theorem c_Sc_readGive {d mc ms : Nat} {ks ao og : Nat → Int} {sz nw er eo mo hf : Int} {ki fi sc pd : Nat → Int} {zs ht : Int} {b : Nat → Int} {tn p : Int} {K : Option Value → PW → Prop} {KX : String → PW → Prop} {L : List (Int × Int × Int)} (hh : r62 hf) (hp : TP b tn ks ao og sz nw p) (hP : PR3 L ki fi sc zs) (hL : (L.length : Int) ≤ 2 * p) (hk9 : kd b tn p = 259)
    (f9 : ∀ e, stmE b tn mo hf p = .inl e → ∀ nw' ki' fi' sc' zs', K (some (.int (iI 0))) (srW ks ao og sz (nw') (e.1) (e.2) mo hf (ki') (fi') (sc') pd (zs') ht))
    (t9 : ∀ v, stmE b tn mo hf p = .inr v → ∀ nw' ki' fi' sc' zs', TP b tn ks ao og sz nw' v.2 → PR3 (L ++ stC v.1) ki' fi' sc' zs' → K (some (.int (iI 1))) (srW ks ao og sz (nw') er eo mo hf (ki') (fi') (sc') pd (zs') ht)) : WQ M_Sc_readGive (d + 23) mc ms [.ref 0] (srW ks ao og sz nw er eo mo hf ki fi sc pd zs ht) K KX := by
  have hpb := hp.p_b
  have h5 := hp.1
  have hz := hP.b hL
  have hn := nx_lt (b := b) (n := tn) (p := p) hpb.2 (by omega)
  have hG := GF.fc (b := b) (n := tn) (h := hf) 6
  unfold stmE at f9 t9
  rw [if_pos hk9] at f9 t9
  refine methC (pf_Sc rfl) (tz_Sc rfl) rfl ?_
  refine run k_Sc_readGive [] 900 ?_
  (repeat ((conv => whnf); simp (disch := omega) only [Int.cast_ofNat_Int, Int.reduceToNat, iI_tt, Int.toNat_natCast, iI_add, iI_sub, iI_mul, iI_neg, lI_add, lI_sub, lI_mul, lI_neg, i2l_, l2i_, iI_lt, iI_le, iI_eq, lI_lt, lI_le, lI_eq, iI_lt0, iI_le0, iI_0lt, iI_0le, iI_eq0, iI_eq1, lI_lt0, lI_le0, lI_0lt, lI_0le, lI_eq0, ix_cl, ix_iff, upd_iI, updL_lI, lI_divF, lI_remF, iI_divF, iI_remF, em_eq, Int.not_lt, Int.not_le, true_implies, false_implies, and_true, true_and, not_true_eq_false, not_false_eq_true, true_or, or_true, or_false, false_or])); (conv => whnf)
  refine WQ_fr [1, 2, 3, 4] ((tkW ks ao og sz nw er eo) ++ ([] : PW)) [.ref 0] rfl rfl rfl rfl ?_
  refine c_Tk_amount hp ?_
  (repeat ((conv => whnf); simp (disch := omega) only [Int.cast_ofNat_Int, Int.reduceToNat, iI_tt, Int.toNat_natCast, iI_add, iI_sub, iI_mul, iI_neg, lI_add, lI_sub, lI_mul, lI_neg, i2l_, l2i_, iI_lt, iI_le, iI_eq, lI_lt, lI_le, lI_eq, iI_lt0, iI_le0, iI_0lt, iI_0le, iI_eq0, iI_eq1, lI_lt0, lI_le0, lI_0lt, lI_0le, lI_eq0, ix_cl, ix_iff, upd_iI, updL_lI, lI_divF, lI_remF, iI_divF, iI_remF, em_eq, Int.not_lt, Int.not_le, true_implies, false_implies, and_true, true_and, not_true_eq_false, not_false_eq_true, true_or, or_true, or_false, false_or])); (conv => whnf)
  refine WQ_fr [1, 2, 3, 4] ((tkW ks ao og sz nw er eo) ++ ([] : PW)) [.ref 0] rfl rfl rfl rfl ?_
  refine c_Tk_move hp (fun nw1 hp1 => ?_)
  (repeat ((conv => whnf); simp (disch := omega) only [Int.cast_ofNat_Int, Int.reduceToNat, iI_tt, Int.toNat_natCast, iI_add, iI_sub, iI_mul, iI_neg, lI_add, lI_sub, lI_mul, lI_neg, i2l_, l2i_, iI_lt, iI_le, iI_eq, lI_lt, lI_le, lI_eq, iI_lt0, iI_le0, iI_0lt, iI_0le, iI_eq0, iI_eq1, lI_lt0, lI_le0, lI_0lt, lI_0le, lI_eq0, ix_cl, ix_iff, upd_iI, updL_lI, lI_divF, lI_remF, iI_divF, iI_remF, em_eq, Int.not_lt, Int.not_le, true_implies, false_implies, and_true, true_and, not_true_eq_false, not_false_eq_true, true_or, or_true, or_false, false_or])); (conv => whnf)
  refine WQ_fr [1, 2, 3, 4] ((tkW ks ao og sz (nw1) er eo) ++ ([] : PW)) [.ref 0, .int (iI 61)] rfl rfl rfl rfl ?_
  refine c_Tk_take hp1 ⟨by omega, by omega⟩ (fun h1 nw2 hp2 => ?_) (fun h1 => ?_)
  · have e1 : tkE b tn 61 (nx b tn p) = .inr (nx b tn (nx b tn p)) := if_pos h1
    rw [e1] at f9 t9
    have hn2 := nx_lt (b := b) (n := tn) (p := nx b tn p) hn.2 (by omega)
    (repeat ((conv => whnf); simp (disch := omega) only [Int.cast_ofNat_Int, Int.reduceToNat, iI_tt, Int.toNat_natCast, iI_add, iI_sub, iI_mul, iI_neg, lI_add, lI_sub, lI_mul, lI_neg, i2l_, l2i_, iI_lt, iI_le, iI_eq, lI_lt, lI_le, lI_eq, iI_lt0, iI_le0, iI_0lt, iI_0le, iI_eq0, iI_eq1, lI_lt0, lI_le0, lI_0lt, lI_0le, lI_eq0, ix_cl, ix_iff, upd_iI, updL_lI, lI_divF, lI_remF, iI_divF, iI_remF, em_eq, Int.not_lt, Int.not_le, true_implies, false_implies, and_true, true_and, not_true_eq_false, not_false_eq_true, true_or, or_true, or_false, false_or])); (conv => whnf)
    repeat' ((first | (refine ⟨fun _ => ?_, fun hb => absurd hb (by omega)⟩) | (refine ⟨fun hb => absurd hb (by omega), fun _ => ?_⟩) | (refine ⟨by omega, ?_⟩) | (refine ⟨⟨by omega, (by (conv => whnf); exact trivial)⟩, ?_⟩) | (refine ⟨(Nat.le_of_ble_eq_true rfl), bWp_ok _ (by (conv => whnf); exact trivial), ?_⟩) | (refine ⟨fun _ => ?_, fun _ => ?_⟩) | fail) <;> ((repeat ((conv => whnf); simp (disch := omega) only [Int.cast_ofNat_Int, Int.reduceToNat, iI_tt, Int.toNat_natCast, iI_add, iI_sub, iI_mul, iI_neg, lI_add, lI_sub, lI_mul, lI_neg, i2l_, l2i_, iI_lt, iI_le, iI_eq, lI_lt, lI_le, lI_eq, iI_lt0, iI_le0, iI_0lt, iI_0le, iI_eq0, iI_eq1, lI_lt0, lI_le0, lI_0lt, lI_0le, lI_eq0, ix_cl, ix_iff, upd_iI, updL_lI, lI_divF, lI_remF, iI_divF, iI_remF, em_eq, Int.not_lt, Int.not_le, true_implies, false_implies, and_true, true_and, not_true_eq_false, not_false_eq_true, true_or, or_true, or_false, false_or])); (conv => whnf)))
    refine c_Sc_readSum (c_Sc_readFactor (d := d) hh 6 (by omega)) hG (by omega) _ _ er eo nw2 zs _ ki fi sc L hp2 hP (by omega) (fun e9 h9 nw' ki' fi' sc' zs' => ?_) (fun v h9 nw' ki' fi' sc' zs' hp3 hP3 => ?_)
    · simp only [bnE] at f9
      rw [h9] at f9
      (repeat ((conv => whnf); simp (disch := omega) only [Int.cast_ofNat_Int, Int.reduceToNat, iI_tt, Int.toNat_natCast, iI_add, iI_sub, iI_mul, iI_neg, lI_add, lI_sub, lI_mul, lI_neg, i2l_, l2i_, iI_lt, iI_le, iI_eq, lI_lt, lI_le, lI_eq, iI_lt0, iI_le0, iI_0lt, iI_0le, iI_eq0, iI_eq1, lI_lt0, lI_le0, lI_0lt, lI_0le, lI_eq0, ix_cl, ix_iff, upd_iI, updL_lI, lI_divF, lI_remF, iI_divF, iI_remF, em_eq, Int.not_lt, Int.not_le, true_implies, false_implies, and_true, true_and, not_true_eq_false, not_false_eq_true, true_or, or_true, or_false, false_or])); (conv => whnf)
      repeat' ((first | (refine ⟨fun _ => ?_, fun hb => absurd hb (by omega)⟩) | (refine ⟨fun hb => absurd hb (by omega), fun _ => ?_⟩) | (refine ⟨by omega, ?_⟩) | (refine ⟨⟨by omega, (by (conv => whnf); exact trivial)⟩, ?_⟩) | (refine ⟨(Nat.le_of_ble_eq_true rfl), bWp_ok _ (by (conv => whnf); exact trivial), ?_⟩) | (refine ⟨fun _ => ?_, fun _ => ?_⟩) | fail) <;> ((repeat ((conv => whnf); simp (disch := omega) only [Int.cast_ofNat_Int, Int.reduceToNat, iI_tt, Int.toNat_natCast, iI_add, iI_sub, iI_mul, iI_neg, lI_add, lI_sub, lI_mul, lI_neg, i2l_, l2i_, iI_lt, iI_le, iI_eq, lI_lt, lI_le, lI_eq, iI_lt0, iI_le0, iI_0lt, iI_0le, iI_eq0, iI_eq1, lI_lt0, lI_le0, lI_0lt, lI_0le, lI_eq0, ix_cl, ix_iff, upd_iI, updL_lI, lI_divF, lI_remF, iI_divF, iI_remF, em_eq, Int.not_lt, Int.not_le, true_implies, false_implies, and_true, true_and, not_true_eq_false, not_false_eq_true, true_or, or_true, or_false, false_or])); (conv => whnf)))
      exact f9 e9 rfl _ _ _ _ _
    · simp only [bnE] at t9
      rw [h9] at t9
      have hO := hG.su (b := b) _ v (by omega) hn2.2 h9
      have hz2 : zs' < 1000 ∧ 0 ≤ zs' := by
        have a0 := hP3.1
        have a1 := hO.1
        have a2 := hO.2.1
        rw [List.length_append] at a0
        omega
      have hP4 := hP3.add (3, amt b tn p, 0)
      have e3 : L ++ v.1.1 ++ [(3, amt b tn p, 0)] = L ++ stC ((0, amt b tn p, 0), v.1) := by
        show _ = L ++ (v.1.1 ++ [(3, amt b tn p, 0)])
        simp only [List.append_assoc]
      rw [e3] at hP4
      (repeat ((conv => whnf); simp (disch := omega) only [Int.cast_ofNat_Int, Int.reduceToNat, iI_tt, Int.toNat_natCast, iI_add, iI_sub, iI_mul, iI_neg, lI_add, lI_sub, lI_mul, lI_neg, i2l_, l2i_, iI_lt, iI_le, iI_eq, lI_lt, lI_le, lI_eq, iI_lt0, iI_le0, iI_0lt, iI_0le, iI_eq0, iI_eq1, lI_lt0, lI_le0, lI_0lt, lI_0le, lI_eq0, ix_cl, ix_iff, upd_iI, updL_lI, lI_divF, lI_remF, iI_divF, iI_remF, em_eq, Int.not_lt, Int.not_le, true_implies, false_implies, and_true, true_and, not_true_eq_false, not_false_eq_true, true_or, or_true, or_false, false_or])); (conv => whnf)
      repeat' ((first | (refine ⟨fun _ => ?_, fun hb => absurd hb (by omega)⟩) | (refine ⟨fun hb => absurd hb (by omega), fun _ => ?_⟩) | (refine ⟨by omega, ?_⟩) | (refine ⟨⟨by omega, (by (conv => whnf); exact trivial)⟩, ?_⟩) | (refine ⟨(Nat.le_of_ble_eq_true rfl), bWp_ok _ (by (conv => whnf); exact trivial), ?_⟩) | (refine ⟨fun _ => ?_, fun _ => ?_⟩) | fail) <;> ((repeat ((conv => whnf); simp (disch := omega) only [Int.cast_ofNat_Int, Int.reduceToNat, iI_tt, Int.toNat_natCast, iI_add, iI_sub, iI_mul, iI_neg, lI_add, lI_sub, lI_mul, lI_neg, i2l_, l2i_, iI_lt, iI_le, iI_eq, lI_lt, lI_le, lI_eq, iI_lt0, iI_le0, iI_0lt, iI_0le, iI_eq0, iI_eq1, lI_lt0, lI_le0, lI_0lt, lI_0le, lI_eq0, ix_cl, ix_iff, upd_iI, updL_lI, lI_divF, lI_remF, iI_divF, iI_remF, em_eq, Int.not_lt, Int.not_le, true_implies, false_implies, and_true, true_and, not_true_eq_false, not_false_eq_true, true_or, or_true, or_false, false_or])); (conv => whnf)))
      refine WQ_fr [5, 6, 7, 8, 9] ((pgW (ki') (fi') (sc') pd (zs') ht)) [.ref 0, .int (iI 3), .int (iI (amt b tn p)), .int (iI 0)] rfl rfl rfl rfl ?_
      refine c_Pg_add hz2.2 hz2.1 ?_
      (repeat ((conv => whnf); simp (disch := omega) only [Int.cast_ofNat_Int, Int.reduceToNat, iI_tt, Int.toNat_natCast, iI_add, iI_sub, iI_mul, iI_neg, lI_add, lI_sub, lI_mul, lI_neg, i2l_, l2i_, iI_lt, iI_le, iI_eq, lI_lt, lI_le, lI_eq, iI_lt0, iI_le0, iI_0lt, iI_0le, iI_eq0, iI_eq1, lI_lt0, lI_le0, lI_0lt, lI_0le, lI_eq0, ix_cl, ix_iff, upd_iI, updL_lI, lI_divF, lI_remF, iI_divF, iI_remF, em_eq, Int.not_lt, Int.not_le, true_implies, false_implies, and_true, true_and, not_true_eq_false, not_false_eq_true, true_or, or_true, or_false, false_or])); (conv => whnf)
      exact t9 _ rfl _ _ _ _ _ hp3 hP4
  · have e1 : tkE b tn 61 (nx b tn p) = .inl (1, nx b tn p) := if_neg h1
    rw [e1] at f9
    (repeat ((conv => whnf); simp (disch := omega) only [Int.cast_ofNat_Int, Int.reduceToNat, iI_tt, Int.toNat_natCast, iI_add, iI_sub, iI_mul, iI_neg, lI_add, lI_sub, lI_mul, lI_neg, i2l_, l2i_, iI_lt, iI_le, iI_eq, lI_lt, lI_le, lI_eq, iI_lt0, iI_le0, iI_0lt, iI_0le, iI_eq0, iI_eq1, lI_lt0, lI_le0, lI_0lt, lI_0le, lI_eq0, ix_cl, ix_iff, upd_iI, updL_lI, lI_divF, lI_remF, iI_divF, iI_remF, em_eq, Int.not_lt, Int.not_le, true_implies, false_implies, and_true, true_and, not_true_eq_false, not_false_eq_true, true_or, or_true, or_false, false_or])); (conv => whnf)
    repeat' ((first | (refine ⟨fun _ => ?_, fun hb => absurd hb (by omega)⟩) | (refine ⟨fun hb => absurd hb (by omega), fun _ => ?_⟩) | (refine ⟨by omega, ?_⟩) | (refine ⟨⟨by omega, (by (conv => whnf); exact trivial)⟩, ?_⟩) | (refine ⟨(Nat.le_of_ble_eq_true rfl), bWp_ok _ (by (conv => whnf); exact trivial), ?_⟩) | (refine ⟨fun _ => ?_, fun _ => ?_⟩) | fail) <;> ((repeat ((conv => whnf); simp (disch := omega) only [Int.cast_ofNat_Int, Int.reduceToNat, iI_tt, Int.toNat_natCast, iI_add, iI_sub, iI_mul, iI_neg, lI_add, lI_sub, lI_mul, lI_neg, i2l_, l2i_, iI_lt, iI_le, iI_eq, lI_lt, lI_le, lI_eq, iI_lt0, iI_le0, iI_0lt, iI_0le, iI_eq0, iI_eq1, lI_lt0, lI_le0, lI_0lt, lI_0le, lI_eq0, ix_cl, ix_iff, upd_iI, updL_lI, lI_divF, lI_remF, iI_divF, iI_remF, em_eq, Int.not_lt, Int.not_le, true_implies, false_implies, and_true, true_and, not_true_eq_false, not_false_eq_true, true_or, or_true, or_false, false_or])); (conv => whnf)))
    exact f9 _ rfl _ _ _ _ _
