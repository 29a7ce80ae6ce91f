/-! THE LAW: isSound, printRegister of its own -/
theorem w_isSound {d : Nat} {f f2 : Nat → Int32} {il hs nx cz sm sh le lo cn ml t0 pm ik il2 ec eo fr tt tk vl tn sts ops opn tp ip ol : Int} {m1 m2 m3 : MS} {rf : Nat → Option Nat} {sl : Nat → MS} {t1 t2 : TS} {pg : PS} {sv : Nat} {b9 : va_E} {s dr kp ps rs stm op wi pu nb ou oa : Nat → Int} {ex : PW} {n ck st wh rg : Int} {md wt num acc : Nat → Int} {K : Option Value → PW → Prop} {KX : String → PW → Prop} {r : Int} (hB : MB n ck wh rg md wt num) (hr9 : r32 r)
    (f9 : ¬ (0 ≤ r ∧ r < 8) → K (some (.int (iI 1))) (lwW f il ((mkM n ck st wh rg md wt num acc)) m2 m3 hs nx cz rf sl t1 t2 sm sh pg le lo sv cn ml b9 t0 s dr kp ps pm ik rs f2 il2 ec eo fr tt tk vl tn stm sts op wi ops opn tp pu ip nb ou ol oa ex))
    (t9 : 0 ≤ r ∧ r < 8 → K (some (.int (iI 0))) (lwW f il ((mkM n ck st wh rg md wt num acc)) m2 m3 hs nx cz rf sl t1 t2 sm sh pg le lo sv cn ml b9 t0 s dr kp ps pm ik rs f2 il2 ec eo fr tt tk vl tn stm sts op wi ops opn tp pu ip nb ou ol (upI oa 0 (if fitB rg (num r.toNat) = true then 1 else 0)) ex)) : WQ M_Lw_isSound (d + 8) 1 34 [.ref 0, .int (iI r), .ref 106] (lwW f il ((mkM n ck st wh rg md wt num acc)) m2 m3 hs nx cz rf sl t1 t2 sm sh pg le lo sv cn ml b9 t0 s dr kp ps pm ik rs f2 il2 ec eo fr tt tk vl tn stm sts op wi ops opn tp pu ip nb ou ol oa ex) K KX := by
  refine methW rfl (by decide +kernel) rfl ?_
  refine run k_Lw_isSound [] 900 ?_
  (repeat ((conv => whnf); simp (disch := omega) only [Int.cast_ofNat_Int, Int.reduceToNat, iI_tt, Int.toNat_natCast, iI_add, iI_sub, iI_mul, iI_neg, lI_add, lI_sub, lI_mul, lI_neg, i2l_, l2i_, iI_lt, iI_le, iI_eq, lI_lt, lI_le, lI_eq, iI_lt0, iI_le0, iI_0lt, iI_0le, iI_eq0, iI_eq1, lI_lt0, lI_le0, lI_0lt, lI_0le, lI_eq0, ix_cl, ix_iff, upd_iI, updL_lI, lI_divF, lI_remF, iI_divF, iI_remF, em_eq, Int.not_lt, Int.not_le, true_implies, false_implies, and_true, true_and, not_true_eq_false, not_false_eq_true, true_or, or_true, or_false, false_or])); (conv => whnf)
  refine ⟨⟨by decide, by decide⟩, ?_⟩
  refine c_R_isSound (m1 := m1) (mc := 0) (ms := 28) hB hr9 (fun a0 => ?_) (fun a0 => ?_)
  · have q9 := f9 a0
    refine ⟨fun _ => ?_, fun h9 => absurd rfl h9⟩
    (repeat ((conv => whnf); simp (disch := omega) only [Int.cast_ofNat_Int, Int.reduceToNat, iI_tt, Int.toNat_natCast, iI_add, iI_sub, iI_mul, iI_neg, lI_add, lI_sub, lI_mul, lI_neg, i2l_, l2i_, iI_lt, iI_le, iI_eq, lI_lt, lI_le, lI_eq, iI_lt0, iI_le0, iI_0lt, iI_0le, iI_eq0, iI_eq1, lI_lt0, lI_le0, lI_0lt, lI_0le, lI_eq0, ix_cl, ix_iff, upd_iI, updL_lI, lI_divF, lI_remF, iI_divF, iI_remF, em_eq, Int.not_lt, Int.not_le, true_implies, false_implies, and_true, true_and, not_true_eq_false, not_false_eq_true, true_or, or_true, or_false, false_or])); (conv => whnf)
    exact q9
  · have q9 := t9 a0
    by_cases hf : fitB rg (num r.toNat) = true
    · rw [if_pos hf] at q9 ⊢
      (repeat ((conv => whnf); simp (disch := omega) only [Int.cast_ofNat_Int, Int.reduceToNat, iI_tt, Int.toNat_natCast, iI_add, iI_sub, iI_mul, iI_neg, lI_add, lI_sub, lI_mul, lI_neg, i2l_, l2i_, iI_lt, iI_le, iI_eq, lI_lt, lI_le, lI_eq, iI_lt0, iI_le0, iI_0lt, iI_0le, iI_eq0, iI_eq1, lI_lt0, lI_le0, lI_0lt, lI_0le, lI_eq0, ix_cl, ix_iff, upd_iI, updL_lI, lI_divF, lI_remF, iI_divF, iI_remF, em_eq, Int.not_lt, Int.not_le, true_implies, false_implies, and_true, true_and, not_true_eq_false, not_false_eq_true, true_or, or_true, or_false, false_or])); (conv => whnf)
      repeat' ((first | (refine ⟨fun _ => ?_, fun hb => absurd hb (by omega)⟩) | (refine ⟨fun hb => absurd hb (by omega), fun _ => ?_⟩) | (refine ⟨by omega, ?_⟩) | (refine ⟨⟨by omega, (by (conv => whnf); exact trivial)⟩, ?_⟩) | (refine ⟨(Nat.le_of_ble_eq_true rfl), bWp_ok _ (by (conv => whnf); exact trivial), ?_⟩) | (refine ⟨fun _ => ?_, fun _ => ?_⟩) | fail) <;> ((repeat ((conv => whnf); simp (disch := omega) only [Int.cast_ofNat_Int, Int.reduceToNat, iI_tt, Int.toNat_natCast, iI_add, iI_sub, iI_mul, iI_neg, lI_add, lI_sub, lI_mul, lI_neg, i2l_, l2i_, iI_lt, iI_le, iI_eq, lI_lt, lI_le, lI_eq, iI_lt0, iI_le0, iI_0lt, iI_0le, iI_eq0, iI_eq1, lI_lt0, lI_le0, lI_0lt, lI_0le, lI_eq0, ix_cl, ix_iff, upd_iI, updL_lI, lI_divF, lI_remF, iI_divF, iI_remF, em_eq, Int.not_lt, Int.not_le, true_implies, false_implies, and_true, true_and, not_true_eq_false, not_false_eq_true, true_or, or_true, or_false, false_or])); (conv => whnf)))
      all_goals first | exact q9 | (exfalso; omega)
    · rw [if_neg hf] at q9 ⊢
      (repeat ((conv => whnf); simp (disch := omega) only [Int.cast_ofNat_Int, Int.reduceToNat, iI_tt, Int.toNat_natCast, iI_add, iI_sub, iI_mul, iI_neg, lI_add, lI_sub, lI_mul, lI_neg, i2l_, l2i_, iI_lt, iI_le, iI_eq, lI_lt, lI_le, lI_eq, iI_lt0, iI_le0, iI_0lt, iI_0le, iI_eq0, iI_eq1, lI_lt0, lI_le0, lI_0lt, lI_0le, lI_eq0, ix_cl, ix_iff, upd_iI, updL_lI, lI_divF, lI_remF, iI_divF, iI_remF, em_eq, Int.not_lt, Int.not_le, true_implies, false_implies, and_true, true_and, not_true_eq_false, not_false_eq_true, true_or, or_true, or_false, false_or])); (conv => whnf)
      repeat' ((first | (refine ⟨fun _ => ?_, fun hb => absurd hb (by omega)⟩) | (refine ⟨fun hb => absurd hb (by omega), fun _ => ?_⟩) | (refine ⟨by omega, ?_⟩) | (refine ⟨⟨by omega, (by (conv => whnf); exact trivial)⟩, ?_⟩) | (refine ⟨(Nat.le_of_ble_eq_true rfl), bWp_ok _ (by (conv => whnf); exact trivial), ?_⟩) | (refine ⟨fun _ => ?_, fun _ => ?_⟩) | fail) <;> ((repeat ((conv => whnf); simp (disch := omega) only [Int.cast_ofNat_Int, Int.reduceToNat, iI_tt, Int.toNat_natCast, iI_add, iI_sub, iI_mul, iI_neg, lI_add, lI_sub, lI_mul, lI_neg, i2l_, l2i_, iI_lt, iI_le, iI_eq, lI_lt, lI_le, lI_eq, iI_lt0, iI_le0, iI_0lt, iI_0le, iI_eq0, iI_eq1, lI_lt0, lI_le0, lI_0lt, lI_0le, lI_eq0, ix_cl, ix_iff, upd_iI, updL_lI, lI_divF, lI_remF, iI_divF, iI_remF, em_eq, Int.not_lt, Int.not_le, true_implies, false_implies, and_true, true_and, not_true_eq_false, not_false_eq_true, true_or, or_true, or_false, false_or])); (conv => whnf)))
      all_goals first | exact q9 | (exfalso; omega)
/-- where the builder's bytes are -/
def SHP (sv : Nat) (cn : Int) (b9 : va_E) (ex : PW) (g : Nat → Int) : Prop := (sv = 92 ∧ b9 = byt 16 g ∧ ex = [] ∧ cn ≤ 16) ∨ (sv = 107 ∧ ex = [byt 34 g] ∧ ∃ g0, b9 = byt 16 g0)
def btL (b9 : va_E) (t0 : Int) (s dr kp ps : Nat → Int) (pm ik : Int) (rs : Nat → Int) (f2 : Nat → Int32) (il2 ec eo fr tt tk vl tn : Int) (stm : Nat → Int) (sts : Int) (op wi : Nat → Int) (ops opn tp : Int) (pu : Nat → Int) (ip : Int) (nb ou : Nat → Int) (ol : Int) (oa : Nat → Int) (ex : PW) : PW := b9 :: (mmL t0 s dr kp ps pm ik rs f2 il2 ec eo fr tt tk vl tn stm sts op wi ops opn tp pu ip nb ou ol ++ (.inl (2, 1, .inr (.inl (fun j => lI (oa j)))) :: ex))
theorem SHP.get {f2 : Nat → Int32} {cn t0 pm ik il2 ec eo fr tt tk vl tn sts ops opn tp ip ol : Int} {sv : Nat} {b9 : va_E} {s dr kp ps rs stm op wi pu nb ou oa : Nat → Int} {ex : PW} {g : Nat → Int} (h : SHP sv cn b9 ex g) (hc : OUT9 sv cn b9 ou ol ex) : ∃ N k : Nat, sv = 92 + k ∧ (N = 16 ∨ N = 34) ∧ cn ≤ N ∧ (btL b9 t0 s dr kp ps pm ik rs f2 il2 ec eo fr tt tk vl tn stm sts op wi ops opn tp pu ip nb ou ol oa ex)[k]? = some (byt N g) := by
  rcases h with ⟨rfl, rfl, rfl, hcn⟩ | ⟨rfl, rfl, g0, rfl⟩
  · exact ⟨16, 0, rfl, Or.inl rfl, hcn, rfl⟩
  · refine ⟨34, 15, rfl, Or.inr rfl, ?_, rfl⟩
    obtain ⟨T, g9, -, h2, -, h4, -⟩ := hc
    have := h2.1
    omega
theorem SBs_sh {f2 : Nat → Int32} {cn t0 pm ik il2 ec eo fr tt tk vl tn sts ops opn tp ip ol : Int} {sv : Nat} {b9 : va_E} {s dr kp ps rs stm op wi pu nb ou oa : Nat → Int} {ex : PW} {g g' : Nat → Int} {N' k' : Nat} {bt' : PW} {c' : Int} (h : SHP sv cn b9 ex g) {N k : Nat} (hk : sv = 92 + k) (hN : N = 16 ∨ N = 34) (hb : (btL b9 t0 s dr kp ps pm ik rs f2 il2 ec eo fr tt tk vl tn stm sts op wi ops opn tp pu ip nb ou ol oa ex)[k]? = some (byt N g)) (hS : SBs N k (btL b9 t0 s dr kp ps pm ik rs f2 il2 ec eo fr tt tk vl tn stm sts op wi ops opn tp pu ip nb ou ol oa ex) N' k' bt' g') (hc : c' ≤ N') : ∃ (sv' : Nat) (b9' : va_E) (ex' : PW), sv' = 92 + k' ∧ bt' = (btL b9' t0 s dr kp ps pm ik rs f2 il2 ec eo fr tt tk vl tn stm sts op wi ops opn tp pu ip nb ou ol oa ex') ∧ SHP sv' c' b9' ex' g' := by
  rcases h with ⟨rfl, rfl, rfl, hcn⟩ | ⟨rfl, rfl, g0, rfl⟩
  · have e : k = 0 := by omega
    subst e
    have hN : N = 16 := by
      have h1 : some (byt 16 g) = some (byt N g) := hb
      injection h1 with h1
      injection h1 with h1
      injection h1 with _ h1
      injection h1 with h1 _
      exact h1.symm
    subst hN
    obtain ⟨-, ⟨rfl, rfl, rfl⟩ | ⟨-, rfl, rfl, g0, rfl⟩⟩ := hS
    · exact ⟨92, byt 16 g', [], rfl, rfl, Or.inl ⟨rfl, rfl, rfl, hc⟩⟩
    · exact ⟨107, byt 16 g0, [byt 34 g'], rfl, rfl, Or.inr ⟨rfl, rfl, g0, rfl⟩⟩
  · have e : k = 15 := by omega
    subst e
    have hN : N = 34 := by
      have h1 : some (byt 34 g) = some (byt N g) := hb
      injection h1 with h1
      injection h1 with h1
      injection h1 with _ h1
      injection h1 with h1 _
      exact h1.symm
    subst hN
    obtain ⟨-, ⟨rfl, rfl, rfl⟩ | ⟨h9, -⟩⟩ := hS
    · exact ⟨107, byt 16 g0, [byt 34 g'], rfl, rfl, Or.inr ⟨rfl, rfl, g0, rfl⟩⟩
    · exact absurd h9 (by decide)
