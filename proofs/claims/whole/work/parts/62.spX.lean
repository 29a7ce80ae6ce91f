/-! SCRIPTS: what doing them comes to -/
abbrev T9 : Type := Int × (Nat → Int) × (Nat → Int)
def MdR (n wh rg : Int) (md wt : Nat → Int) (x y : Int) : Prop := ¬ fitP rg x ∧ ∃ (k : Nat) (v : Int), (k : Int) < n ∧ (∀ j : Nat, j < k → ¬ fltB wh rg md wt x j = true) ∧ SrP wh rg (md k) (wt k) x v ∧ ¬ v = -1 ∧ y = nin (nwR wh (md k) (wt k) x v) wh
theorem SrP.u {wh rg m w x v u : Int} (h : SrP wh rg m w x v) (g : SrP wh rg m w x u) : v = u := by
  rcases h with ⟨a1, a2, a3, a4⟩ | ⟨a1, a2⟩ <;> rcases g with ⟨b1, b2, b3, b4⟩ | ⟨b1, b2⟩
  · by_cases e : v < u
    · exact absurd a3 (b4 v a1 e)
    · by_cases e2 : u < v
      · exact absurd b3 (a4 u b1 e2)
      · omega
  · exact absurd a3 (b2 v a1 a2)
  · exact absurd b3 (a2 u b1 b2)
  · omega
theorem MdR.u {n wh rg : Int} {md wt : Nat → Int} {x y z : Int} (h : MdR n wh rg md wt x y) (g : MdR n wh rg md wt x z) : y = z := by
  obtain ⟨-, k, v, h1, h2, h3, h4, rfl⟩ := h
  obtain ⟨-, j, u, g1, g2, g3, g4, rfl⟩ := g
  have e : k = j := by
    have a := (fltB_t h3).mpr h4
    have b := (fltB_t g3).mpr g4
    by_cases e1 : k < j
    · exact absurd a (g2 k e1)
    · by_cases e2 : j < k
      · exact absurd b (h2 j e2)
      · omega
  subst e
  rw [h3.u g3]
noncomputable def mdF (n wh rg : Int) (md wt : Nat → Int) (x : Int) : Option Int := @dite _ (∃ y, MdR n wh rg md wt x y) (Classical.propDecidable _) (fun h => some h.choose) (fun _ => none)
theorem mdF_s {n wh rg : Int} {md wt : Nat → Int} {x y : Int} (h : MdR n wh rg md wt x y) : mdF n wh rg md wt x = some y := by
  unfold mdF
  rw [dif_pos ⟨y, h⟩]
  have h9 : ∃ y, MdR n wh rg md wt x y := ⟨y, h⟩
  exact congrArg some (h9.choose_spec.u h)
theorem mdF_n {n wh rg : Int} {md wt : Nat → Int} {x : Int} (h : fitP rg x ∨ ∀ k : Nat, (k : Int) < n → ¬ fltB wh rg md wt x k = true) : mdF n wh rg md wt x = none := by
  unfold mdF
  rw [dif_neg]
  rintro ⟨y, h0, k, v, h1, h2, h3, h4, -⟩
  rcases h with h | h
  · exact h0 h
  · exact h k h1 ((fltB_t h3).mpr h4)
noncomputable def stF (n wh rg : Int) (md wt : Nat → Int) (s : S9) (t : T9) : Int × T9 :=
  if s.1.1 = 0 then (match evC t.1 rg wh t.2.1 s.2.1 [] with
    | some (.inr (x :: _)) => (0, (t.1, upI t.2.1 s.1.2.1.toNat x, finA rg x t.2.2))
    | some (.inl w) => (w, (t.1, t.2.1, bk t.2.2 w.toNat))
    | _ => (0, t))
  else if s.1.1 = 1 then (if rfsB t.1 rg wh (t.2.1 s.1.2.1.toNat / md s.1.2.2.toNat) = true then (2, (t.1, t.2.1, bk t.2.2 2)) else (0, (t.1, upI t.2.1 s.1.2.1.toNat (nin (t.2.1 s.1.2.1.toNat / md s.1.2.2.toNat) wh), finA rg (nin (t.2.1 s.1.2.1.toNat / md s.1.2.2.toNat) wh) t.2.2)))
  else if s.1.1 = 2 then (0, (t.1, exN wh t.2.1 s.1.2.1.toNat s.1.2.2.toNat, t.2.2))
  else if s.1.1 = 3 then (match mdF n wh rg md wt (t.2.1 s.1.2.1.toNat) with
    | some y => (0, (t.1, upI t.2.1 s.1.2.1.toNat y, finA rg y t.2.2))
    | none => (3, (t.1, t.2.1, bk t.2.2 3)))
  else (0, (s.1.2.1, t.2.1, t.2.2))
noncomputable def plF (n wh rg : Int) (md wt : Nat → Int) : List S9 → Int → T9 → Int × T9
  | [], k, t => (k, t)
  | s :: l, k, t => if (stF n wh rg md wt s t).1 = 0 then plF n wh rg md wt l (k + 1) ((stF n wh rg md wt s t).2.1, (stF n wh rg md wt s t).2.2.1, bk (stF n wh rg md wt s t).2.2.2 7) else (k, (stF n wh rg md wt s t).2)
/-! the row of NUMBERs that wait -/
def STp : List Int → (Nat → Int) → Prop
  | [], _ => True
  | x :: σ, pd => pd σ.length = x ∧ STp σ pd
theorem STp.up {y : Int} {k : Nat} {pd : Nat → Int} : ∀ {σ : List Int}, σ.length ≤ k → STp σ pd → STp σ (upI pd k y)
  | [], _, _ => trivial
  | x :: σ, hk, h => by
    rw [List.length_cons] at hk
    exact ⟨(upI_n (by omega)).trans h.1, STp.up (by omega) h.2⟩
theorem STp.push {x : Int} {pd : Nat → Int} {σ : List Int} (h : STp σ pd) : STp (x :: σ) (upI pd σ.length x) := ⟨upI_s, h.up (by omega)⟩
def SB (wh : Int) (σ : List Int) : Prop := ∀ x, x ∈ σ → nin x wh = x
theorem SB.nil {wh : Int} : SB wh [] := fun x h => absurd h List.not_mem_nil
theorem SB.cons {wh x : Int} {σ : List Int} (h : SB wh σ) (hx : nin x wh = x) : SB wh (x :: σ) := fun y hy => by
  rcases List.mem_cons.mp hy with e | e
  · rw [e]
    exact hx
  · exact h y e
/-! THE CLASS: doing -/
theorem c_Pg_push {d mc ms : Nat} {ki fi sc pd : Nat → Int} {zs ht : Int} {K : Option Value → PW → Prop} {KX : String → PW → Prop} {x : Int} (h0 : 0 ≤ ht) (h1 : ht < 32) (h : K none (pgW ki fi sc (upI pd ht.toNat x) zs (ht + 1))) : WQ M_Pg_push d mc ms [.ref 0, .long (lI x)] (pgW ki fi sc pd zs ht) K KX := by
  refine methC (pf_Pg rfl) (tz_Pg rfl) rfl ?_
  refine run k_Pg_push [] 900 ?_
  (repeat ((conv => whnf); simp (disch := omega) only [Int.cast_ofNat_Int, Int.reduceToNat, iI_tt, Int.toNat_natCast, iI_add, iI_sub, iI_mul, iI_neg, lI_add, lI_sub, lI_mul, lI_neg, i2l_, l2i_, iI_lt, iI_le, iI_eq, lI_lt, lI_le, lI_eq, iI_lt0, iI_le0, iI_0lt, iI_0le, iI_eq0, iI_eq1, lI_lt0, lI_le0, lI_0lt, lI_0le, lI_eq0, ix_cl, ix_iff, upd_iI, updL_lI, lI_divF, lI_remF, iI_divF, iI_remF, em_eq, Int.not_lt, Int.not_le, true_implies, false_implies, and_true, true_and, not_true_eq_false, not_false_eq_true, true_or, or_true, or_false, false_or])); (conv => whnf)
  (repeat ((conv => whnf); simp (disch := omega) only [Int.cast_ofNat_Int, Int.reduceToNat, iI_tt, Int.toNat_natCast, iI_add, iI_sub, iI_mul, iI_neg, lI_add, lI_sub, lI_mul, lI_neg, i2l_, l2i_, iI_lt, iI_le, iI_eq, lI_lt, lI_le, lI_eq, iI_lt0, iI_le0, iI_0lt, iI_0le, iI_eq0, iI_eq1, lI_lt0, lI_le0, lI_0lt, lI_0le, lI_eq0, ix_cl, ix_iff, upd_iI, updL_lI, lI_divF, lI_remF, iI_divF, iI_remF, em_eq, Int.not_lt, Int.not_le, true_implies, false_implies, and_true, true_and, not_true_eq_false, not_false_eq_true, true_or, or_true, or_false, false_or])); (conv => whnf)
  repeat' ((first | (refine ⟨fun _ => ?_, fun hb => absurd hb (by omega)⟩) | (refine ⟨fun hb => absurd hb (by omega), fun _ => ?_⟩) | (refine ⟨by omega, ?_⟩) | (refine ⟨⟨by omega, (by (conv => whnf); exact trivial)⟩, ?_⟩) | (refine ⟨(Nat.le_of_ble_eq_true rfl), bWp_ok _ (by (conv => whnf); exact trivial), ?_⟩) | (refine ⟨fun _ => ?_, fun _ => ?_⟩) | fail) <;> ((repeat ((conv => whnf); simp (disch := omega) only [Int.cast_ofNat_Int, Int.reduceToNat, iI_tt, Int.toNat_natCast, iI_add, iI_sub, iI_mul, iI_neg, lI_add, lI_sub, lI_mul, lI_neg, i2l_, l2i_, iI_lt, iI_le, iI_eq, lI_lt, lI_le, lI_eq, iI_lt0, iI_le0, iI_0lt, iI_0le, iI_eq0, iI_eq1, lI_lt0, lI_le0, lI_0lt, lI_0le, lI_eq0, ix_cl, ix_iff, upd_iI, updL_lI, lI_divF, lI_remF, iI_divF, iI_remF, em_eq, Int.not_lt, Int.not_le, true_implies, false_implies, and_true, true_and, not_true_eq_false, not_false_eq_true, true_or, or_true, or_false, false_or])); (conv => whnf)))
  exact h
theorem c_Pg_pop {d mc ms : Nat} {ki fi sc pd : Nat → Int} {zs ht : Int} {K : Option Value → PW → Prop} {KX : String → PW → Prop} (h0 : 1 ≤ ht) (h1 : ht ≤ 32) (h : K (some (.long (lI (pd (ht - 1).toNat)))) (pgW ki fi sc pd zs (ht - 1))) : WQ M_Pg_pop d mc ms [.ref 0] (pgW ki fi sc pd zs ht) K KX := by
  refine methC (pf_Pg rfl) (tz_Pg rfl) rfl ?_
  refine run k_Pg_pop [] 900 ?_
  (repeat ((conv => whnf); simp (disch := omega) only [Int.cast_ofNat_Int, Int.reduceToNat, iI_tt, Int.toNat_natCast, iI_add, iI_sub, iI_mul, iI_neg, lI_add, lI_sub, lI_mul, lI_neg, i2l_, l2i_, iI_lt, iI_le, iI_eq, lI_lt, lI_le, lI_eq, iI_lt0, iI_le0, iI_0lt, iI_0le, iI_eq0, iI_eq1, lI_lt0, lI_le0, lI_0lt, lI_0le, lI_eq0, ix_cl, ix_iff, upd_iI, updL_lI, lI_divF, lI_remF, iI_divF, iI_remF, em_eq, Int.not_lt, Int.not_le, true_implies, false_implies, and_true, true_and, not_true_eq_false, not_false_eq_true, true_or, or_true, or_false, false_or])); (conv => whnf)
  (repeat ((conv => whnf); simp (disch := omega) only [Int.cast_ofNat_Int, Int.reduceToNat, iI_tt, Int.toNat_natCast, iI_add, iI_sub, iI_mul, iI_neg, lI_add, lI_sub, lI_mul, lI_neg, i2l_, l2i_, iI_lt, iI_le, iI_eq, lI_lt, lI_le, lI_eq, iI_lt0, iI_le0, iI_0lt, iI_0le, iI_eq0, iI_eq1, lI_lt0, lI_le0, lI_0lt, lI_0le, lI_eq0, ix_cl, ix_iff, upd_iI, updL_lI, lI_divF, lI_remF, iI_divF, iI_remF, em_eq, Int.not_lt, Int.not_le, true_implies, false_implies, and_true, true_and, not_true_eq_false, not_false_eq_true, true_or, or_true, or_false, false_or])); (conv => whnf)
  repeat' ((first | (refine ⟨fun _ => ?_, fun hb => absurd hb (by omega)⟩) | (refine ⟨fun hb => absurd hb (by omega), fun _ => ?_⟩) | (refine ⟨by omega, ?_⟩) | (refine ⟨⟨by omega, (by (conv => whnf); exact trivial)⟩, ?_⟩) | (refine ⟨(Nat.le_of_ble_eq_true rfl), bWp_ok _ (by (conv => whnf); exact trivial), ?_⟩) | (refine ⟨fun _ => ?_, fun _ => ?_⟩) | fail) <;> ((repeat ((conv => whnf); simp (disch := omega) only [Int.cast_ofNat_Int, Int.reduceToNat, iI_tt, Int.toNat_natCast, iI_add, iI_sub, iI_mul, iI_neg, lI_add, lI_sub, lI_mul, lI_neg, i2l_, l2i_, iI_lt, iI_le, iI_eq, lI_lt, lI_le, lI_eq, iI_lt0, iI_le0, iI_0lt, iI_0le, iI_eq0, iI_eq1, lI_lt0, lI_le0, lI_0lt, lI_0le, lI_eq0, ix_cl, ix_iff, upd_iI, updL_lI, lI_divF, lI_remF, iI_divF, iI_remF, em_eq, Int.not_lt, Int.not_le, true_implies, false_implies, and_true, true_and, not_true_eq_false, not_false_eq_true, true_or, or_true, or_false, false_or])); (conv => whnf)))
  exact h
