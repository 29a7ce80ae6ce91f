/-! THE LAW: texts -/
theorem lw_vv {f f2 : Nat → Int32} {il hs nx cz sm sh le lo cn ml t0 pm ik il2 ec eo fr tt tk vl tn sts ops opn tp ip ol : Int} {m1 m2 m3 : MS} {rf : Nat → Option Nat} {sl : Nat → MS} {t1 t2 : TS} {pg : PS} {b9 : va_E} {s dr kp ps rs stm op wi pu nb ou oa : Nat → Int} {ex : PW} {k : Nat} : (lwW f il m1 m2 m3 hs nx cz rf sl t1 t2 sm sh pg le lo (92 + k) cn ml b9 t0 s dr kp ps pm ik rs f2 il2 ec eo fr tt tk vl tn stm sts op wi ops opn tp pu ip nb ou ol oa ex) = (vW f il m1 m2 m3 hs nx cz rf sl t1 t2 sm sh pg le lo (k) cn ml ((btL b9 t0 s dr kp ps pm ik rs f2 il2 ec eo fr tt tk vl tn stm sts op wi ops opn tp pu ip nb ou ol oa ex))) := by
  unfold lwW rW vW vP btL
  simp only [List.append_assoc, List.cons_append, List.nil_append]
theorem hbw_A {f f2 : Nat → Int32} {il hs nx cz sm sh le lo t0 pm ik il2 ec eo fr tt tk vl tn sts ops opn tp ip ol : Int} {m1 m2 m3 : MS} {rf : Nat → Option Nat} {sl : Nat → MS} {t1 t2 : TS} {pg : PS} {s dr kp ps rs stm op wi pu nb ou oa : Nat → Int} {g0 : Nat → Int} (hrf : ∀ j q, rf j = some q → q < 76) : HBW f il m1 m2 m3 hs nx cz rf sl t1 t2 sm sh pg le lo 16 0 (btL (byt 16 g0) t0 s dr kp ps pm ik rs f2 il2 ec eo fr tt tk vl tn stm sts op wi ops opn tp pu ip nb ou ol oa []) := by
  intro _ cn ml g
  refine bWp_ok _ ?_
  (conv => whnf)
  exact ⟨fun j q hj => Or.inl (Nat.lt_of_lt_of_le (hrf j q hj) (Nat.le_of_ble_eq_true rfl)), (by (conv => whnf); exact trivial)⟩
theorem hbw_B {f : Nat → Int32} {il hs nx cz sm sh le lo : Int} {m1 m2 m3 : MS} {rf : Nat → Option Nat} {sl : Nat → MS} {t1 t2 : TS} {pg : PS} {k : Nat} {bt : PW} : HBW f il m1 m2 m3 hs nx cz rf sl t1 t2 sm sh pg le lo 34 k bt := fun h => absurd h (by decide)
theorem l_printModuli {d : Nat} {f f2 : Nat → Int32} {il hs nx cz sm sh le lo cn ml t0 pm ik il2 ec eo fr tt tk vl tn sts ops opn tp ip ol : Int} {m1 m2 m3 : MS} {rf : Nat → Option Nat} {sl : Nat → MS} {t1 t2 : TS} {pg : PS} {sv : Nat} {b9 : va_E} {s dr kp ps rs stm op wi pu nb ou oa : Nat → Int} {ex : PW} {n ck st wh rg : Int} {md wt num acc : Nat → Int} {K : Option Value → PW → Prop} {KX : String → PW → Prop} {g : Nat → Int} (hm : RM n ck md) (hrf : ∀ j q, rf j = some q → q < 76) (hB : BB g) (c0 : 0 ≤ cn) (hO9 : OUT9 sv cn b9 ou ol ex) (hS : SHP sv cn b9 ex g)
    (h : ∀ (sv' : Nat) (b9' : va_E) (ex' : PW) (g' : Nat → Int) (ml' : Int), BB g' → (pmJ md (n - ck) n.toNat).length ≤ 34 → OW (pmJ md (n - ck) n.toNat) g' ((pmJ md (n - ck) n.toNat).length : Int) → SHP sv' ((pmJ md (n - ck) n.toNat).length : Int) b9' ex' g' → K (some (.int (iI ((pmJ md (n - ck) n.toNat).length : Int)))) (lwW f il ((mkM n ck st wh rg md wt num acc)) m2 m3 hs nx cz rf sl t1 t2 sm sh pg le lo (sv') (((pmJ md (n - ck) n.toNat).length : Int)) (ml') (b9') t0 s dr kp ps pm ik rs f2 il2 ec eo fr tt tk vl tn stm sts op wi ops opn tp pu ip nb ou ol oa (ex'))) : WQ M_R_printModuli (d + 6) 1 34 [.ref 0] (lwW f il ((mkM n ck st wh rg md wt num acc)) m2 m3 hs nx cz rf sl t1 t2 sm sh pg le lo sv cn ml b9 t0 s dr kp ps pm ik rs f2 il2 ec eo fr tt tk vl tn stm sts op wi ops opn tp pu ip nb ou ol oa ex) K KX := by
  obtain ⟨N, k, rfl, hN, hcN, hb⟩ := hS.get (t0 := t0) (s := s) (dr := dr) (kp := kp) (ps := ps) (pm := pm) (ik := ik) (rs := rs) (f2 := f2) (il2 := il2) (ec := ec) (eo := eo) (fr := fr) (tt := tt) (tk := tk) (vl := vl) (tn := tn) (stm := stm) (sts := sts) (op := op) (wi := wi) (ops := ops) (opn := opn) (tp := tp) (pu := pu) (ip := ip) (nb := nb) (oa := oa) hO9
  have hw : HBW f il (mkM n ck st wh rg md wt num acc) m2 m3 hs nx cz rf sl t1 t2 sm sh pg le lo N k (btL b9 t0 s dr kp ps pm ik rs f2 il2 ec eo fr tt tk vl tn stm sts op wi ops opn tp pu ip nb ou ol oa ex) := by
    rcases hN with rfl | rfl
    · rcases hS with ⟨h1, rfl, rfl, h4⟩ | ⟨h1, rfl, g0, rfl⟩
      · have e : k = 0 := by omega
        subst e
        exact hbw_A hrf
      · have e : k = 15 := by omega
        subst e
        have h1 : some (byt 34 g) = some (byt 16 g) := hb
        injection h1 with h1
        injection h1 with h1
        injection h1 with _ h1
        injection h1 with h1 _
        exact absurd h1 (by decide)
    · exact hbw_B
  rw [lw_vv]
  refine c_R_printModuli (m1 := m1) (mc := 0) (ms := 0) hm hB hb hN ⟨c0, hcN⟩ hw (fun N' k' bt' g' ml' a1 a2 a3 a4 => ?_)
  obtain ⟨sv', b9', ex', rfl, rfl, a5⟩ := SBs_sh hS rfl hN hb a1 (Int.ofNat_le.mpr a4)
  have q9 := h _ b9' ex' g' ml' a1.1 (by omega) a3 a5
  rw [lw_vv] at q9
  exact q9
theorem l_printRegister {d : Nat} {f f2 : Nat → Int32} {il hs nx cz sm sh le lo cn ml t0 pm ik il2 ec eo fr tt tk vl tn sts ops opn tp ip ol : Int} {m1 m2 m3 : MS} {rf : Nat → Option Nat} {sl : Nat → MS} {t1 t2 : TS} {pg : PS} {sv : Nat} {b9 : va_E} {s dr kp ps rs stm op wi pu nb ou oa : Nat → Int} {ex : PW} {n ck st wh rg : Int} {md wt num acc : Nat → Int} {K : Option Value → PW → Prop} {KX : String → PW → Prop} {g : Nat → Int} {r : Int} (hr9 : r32 r) (hM : MB n ck wh rg md wt num) (hnb : ∀ r : Nat, r < 8 → -500000000 ≤ num r ∧ num r ≤ 500000000) (hrf : ∀ j q, rf j = some q → q < 76) (hB : BB g) (c0 : 0 ≤ cn) (hO9 : OUT9 sv cn b9 ou ol ex) (hS : SHP sv cn b9 ex g)
    (f9 : ¬ (0 ≤ r ∧ r < 8) → KX "java/lang/IndexOutOfBoundsException" (lwW f il ((mkM n ck st wh rg md wt num acc)) m2 m3 hs nx cz rf sl t1 t2 sm sh pg le lo sv cn ml b9 t0 s dr kp ps pm ik rs f2 il2 ec eo fr tt tk vl tn stm sts op wi ops opn tp pu ip nb ou ol oa ex))
    (h : 0 ≤ r ∧ r < 8 → ∀ (sv' : Nat) (b9' : va_E) (ex' : PW) (g' : Nat → Int) (ml' : Int), BB g' → (prL9 md n wh rg r (num r.toNat)).length ≤ 34 → OW (prL9 md n wh rg r (num r.toNat)) g' ((prL9 md n wh rg r (num r.toNat)).length : Int) → SHP sv' ((prL9 md n wh rg r (num r.toNat)).length : Int) b9' ex' g' → K (some (.int (iI ((prL9 md n wh rg r (num r.toNat)).length : Int)))) (lwW f il ((mkM n ck st wh rg md wt num acc)) m2 m3 hs nx cz rf sl t1 t2 sm sh pg le lo (sv') (((prL9 md n wh rg r (num r.toNat)).length : Int)) (ml') (b9') t0 s dr kp ps pm ik rs f2 il2 ec eo fr tt tk vl tn stm sts op wi ops opn tp pu ip nb ou ol oa (ex'))) : WQ M_R_printRegister (d + 7) 1 34 [.ref 0, .int (iI r)] (lwW f il ((mkM n ck st wh rg md wt num acc)) m2 m3 hs nx cz rf sl t1 t2 sm sh pg le lo sv cn ml b9 t0 s dr kp ps pm ik rs f2 il2 ec eo fr tt tk vl tn stm sts op wi ops opn tp pu ip nb ou ol oa ex) K KX := by
  obtain ⟨N, k, rfl, hN, hcN, hb⟩ := hS.get (t0 := t0) (s := s) (dr := dr) (kp := kp) (ps := ps) (pm := pm) (ik := ik) (rs := rs) (f2 := f2) (il2 := il2) (ec := ec) (eo := eo) (fr := fr) (tt := tt) (tk := tk) (vl := vl) (tn := tn) (stm := stm) (sts := sts) (op := op) (wi := wi) (ops := ops) (opn := opn) (tp := tp) (pu := pu) (ip := ip) (nb := nb) (oa := oa) hO9
  have hw : HBW f il (mkM n ck st wh rg md wt num acc) m2 m3 hs nx cz rf sl t1 t2 sm sh pg le lo N k (btL b9 t0 s dr kp ps pm ik rs f2 il2 ec eo fr tt tk vl tn stm sts op wi ops opn tp pu ip nb ou ol oa ex) := by
    rcases hN with rfl | rfl
    · rcases hS with ⟨h1, rfl, rfl, h4⟩ | ⟨h1, rfl, g0, rfl⟩
      · have e : k = 0 := by omega
        subst e
        exact hbw_A hrf
      · have e : k = 15 := by omega
        subst e
        have h1 : some (byt 34 g) = some (byt 16 g) := hb
        injection h1 with h1
        injection h1 with h1
        injection h1 with _ h1
        injection h1 with h1 _
        exact absurd h1 (by decide)
    · exact hbw_B
  rw [lw_vv] at f9 ⊢
  refine c_R_printRegister (m1 := m1) (mc := 0) (ms := 0) hr9 hM hnb hB hb hN ⟨c0, hcN⟩ hw f9 (fun a0 N' k' bt' g' ml' a1 a2 a3 a4 => ?_)
  obtain ⟨sv', b9', ex', rfl, rfl, a5⟩ := SBs_sh hS rfl hN hb a1 (Int.ofNat_le.mpr a4)
  have q9 := h a0 _ b9' ex' g' ml' a1.1 (by omega) a3 a5
  rw [lw_vv] at q9
  exact q9
theorem w_printRegister {d : Nat} {f f2 : Nat → Int32} {il hs nx cz sm sh le lo cn ml t0 pm ik il2 ec eo fr tt tk vl tn sts ops opn tp ip ol : Int} {m1 m2 m3 : MS} {rf : Nat → Option Nat} {sl : Nat → MS} {t1 t2 : TS} {pg : PS} {sv : Nat} {b9 : va_E} {s dr kp ps rs stm op wi pu nb ou oa : Nat → Int} {ex : PW} {n ck st wh rg : Int} {md wt num acc : Nat → Int} {K : Option Value → PW → Prop} {KX : String → PW → Prop} {g : Nat → Int} {r : Int} (hr9 : r32 r) (hM : MB n ck wh rg md wt num) (hnb : ∀ r : Nat, r < 8 → -500000000 ≤ num r ∧ num r ≤ 500000000) (hrf : ∀ j q, rf j = some q → q < 76) (hB : BB g) (c0 : 0 ≤ cn) (hO9 : OUT9 sv cn b9 ou ol ex) (hS : SHP sv cn b9 ex g)
    (f9 : ¬ (0 ≤ r ∧ r < 8) → K (some (.int (iI 1))) (lwW f il ((mkM n ck st wh rg md wt num acc)) m2 m3 hs nx cz rf sl t1 t2 sm sh pg le lo sv cn ml b9 t0 s dr kp ps pm ik rs f2 il2 ec eo fr tt tk vl tn stm sts op wi ops opn tp pu ip nb ou ol oa ex))
    (h : 0 ≤ r ∧ r < 8 → ∀ (sv' : Nat) (b9' : va_E) (ex' : PW) (g' : Nat → Int) (ml' : Int), BB g' → (prL9 md n wh rg r (num r.toNat)).length ≤ 34 → OW (prL9 md n wh rg r (num r.toNat)) g' ((prL9 md n wh rg r (num r.toNat)).length : Int) → SHP sv' ((prL9 md n wh rg r (num r.toNat)).length : Int) b9' ex' g' → K (some (.int (iI 0))) (lwW f il ((mkM n ck st wh rg md wt num acc)) m2 m3 hs nx cz rf sl t1 t2 sm sh pg le lo (sv') (((prL9 md n wh rg r (num r.toNat)).length : Int)) (ml') (b9') t0 s dr kp ps pm ik rs f2 il2 ec eo fr tt tk vl tn stm sts op wi ops opn tp pu ip nb ou ol (upI oa 0 ((prL9 md n wh rg r (num r.toNat)).length : Int)) (ex'))) : WQ M_Lw_printRegister (d + 8) 1 34 [.ref 0, .int (iI r), .ref 106] (lwW f il ((mkM n ck st wh rg md wt num acc)) m2 m3 hs nx cz rf sl t1 t2 sm sh pg le lo sv cn ml b9 t0 s dr kp ps pm ik rs f2 il2 ec eo fr tt tk vl tn stm sts op wi ops opn tp pu ip nb ou ol oa ex) K KX := by
  refine methW rfl (by decide +kernel) rfl ?_
  refine run k_Lw_printRegister [] 900 ?_
  (repeat ((conv => whnf); simp (disch := omega) only [Int.cast_ofNat_Int, Int.reduceToNat, iI_tt, Int.toNat_natCast, iI_add, iI_sub, iI_mul, iI_neg, lI_add, lI_sub, lI_mul, lI_neg, i2l_, l2i_, iI_lt, iI_le, iI_eq, lI_lt, lI_le, lI_eq, iI_lt0, iI_le0, iI_0lt, iI_0le, iI_eq0, iI_eq1, lI_lt0, lI_le0, lI_0lt, lI_0le, lI_eq0, ix_cl, ix_iff, upd_iI, updL_lI, lI_divF, lI_remF, iI_divF, iI_remF, em_eq, Int.not_lt, Int.not_le, true_implies, false_implies, and_true, true_and, not_true_eq_false, not_false_eq_true, true_or, or_true, or_false, false_or])); (conv => whnf)
  refine ⟨⟨by decide, by decide⟩, ?_⟩
  refine l_printRegister (m1 := m1) hr9 hM hnb hrf hB c0 hO9 hS (fun a0 => ?_) (fun a0 sv' b9' ex' g' ml' a1 hl a2 a3 => ?_)
  · have q9 := f9 a0
    refine ⟨fun _ => ?_, fun h9 => absurd rfl h9⟩
    (repeat ((conv => whnf); simp (disch := omega) only [Int.cast_ofNat_Int, Int.reduceToNat, iI_tt, Int.toNat_natCast, iI_add, iI_sub, iI_mul, iI_neg, lI_add, lI_sub, lI_mul, lI_neg, i2l_, l2i_, iI_lt, iI_le, iI_eq, lI_lt, lI_le, lI_eq, iI_lt0, iI_le0, iI_0lt, iI_0le, iI_eq0, iI_eq1, lI_lt0, lI_le0, lI_0lt, lI_0le, lI_eq0, ix_cl, ix_iff, upd_iI, updL_lI, lI_divF, lI_remF, iI_divF, iI_remF, em_eq, Int.not_lt, Int.not_le, true_implies, false_implies, and_true, true_and, not_true_eq_false, not_false_eq_true, true_or, or_true, or_false, false_or])); (conv => whnf)
    exact q9
  · have q9 := h a0 sv' b9' ex' g' ml' a1 hl a2 a3
    generalize (prL9 md n wh rg r (num r.toNat)).length = len at q9 hl ⊢
    (repeat ((conv => whnf); simp (disch := omega) only [Int.cast_ofNat_Int, Int.reduceToNat, iI_tt, Int.toNat_natCast, iI_add, iI_sub, iI_mul, iI_neg, lI_add, lI_sub, lI_mul, lI_neg, i2l_, l2i_, iI_lt, iI_le, iI_eq, lI_lt, lI_le, lI_eq, iI_lt0, iI_le0, iI_0lt, iI_0le, iI_eq0, iI_eq1, lI_lt0, lI_le0, lI_0lt, lI_0le, lI_eq0, ix_cl, ix_iff, upd_iI, updL_lI, lI_divF, lI_remF, iI_divF, iI_remF, em_eq, Int.not_lt, Int.not_le, true_implies, false_implies, and_true, true_and, not_true_eq_false, not_false_eq_true, true_or, or_true, or_false, false_or])); (conv => whnf)
    repeat' ((first | (refine ⟨fun _ => ?_, fun hb => absurd hb (by omega)⟩) | (refine ⟨fun hb => absurd hb (by omega), fun _ => ?_⟩) | (refine ⟨by omega, ?_⟩) | (refine ⟨⟨by omega, (by (conv => whnf); exact trivial)⟩, ?_⟩) | (refine ⟨(Nat.le_of_ble_eq_true rfl), bWp_ok _ (by (conv => whnf); exact trivial), ?_⟩) | (refine ⟨fun _ => ?_, fun _ => ?_⟩) | fail) <;> ((repeat ((conv => whnf); simp (disch := omega) only [Int.cast_ofNat_Int, Int.reduceToNat, iI_tt, Int.toNat_natCast, iI_add, iI_sub, iI_mul, iI_neg, lI_add, lI_sub, lI_mul, lI_neg, i2l_, l2i_, iI_lt, iI_le, iI_eq, lI_lt, lI_le, lI_eq, iI_lt0, iI_le0, iI_0lt, iI_0le, iI_eq0, iI_eq1, lI_lt0, lI_le0, lI_0lt, lI_0le, lI_eq0, ix_cl, ix_iff, upd_iI, updL_lI, lI_divF, lI_remF, iI_divF, iI_remF, em_eq, Int.not_lt, Int.not_le, true_implies, false_implies, and_true, true_and, not_true_eq_false, not_false_eq_true, true_or, or_true, or_false, false_or])); (conv => whnf)))
    exact q9
theorem l_outputByte {d : Nat} {f f2 : Nat → Int32} {il hs nx cz sm sh le lo cn ml t0 pm ik il2 ec eo fr tt tk vl tn sts ops opn tp ip ol : Int} {m1 m2 m3 : MS} {rf : Nat → Option Nat} {sl : Nat → MS} {t1 t2 : TS} {pg : PS} {sv : Nat} {b9 : va_E} {s dr kp ps rs stm op wi pu nb ou oa : Nat → Int} {ex : PW} {K : Option Value → PW → Prop} {KX : String → PW → Prop} {g : Nat → Int} {T : List Int} {x : Int} (hx : r32 x) (hB : BB g) (hO : OW T g cn) (hO9 : OUT9 sv cn b9 ou ol ex) (hS : SHP sv cn b9 ex g) (t9 : ∀ c, T[x.toNat]? = some c → 0 ≤ x → K (some (.int (iI c))) (lwW f il m1 m2 m3 hs nx cz rf sl t1 t2 sm sh pg le lo sv cn ml b9 t0 s dr kp ps pm ik rs f2 il2 ec eo fr tt tk vl tn stm sts op wi ops opn tp pu ip nb ou ol oa ex)) (f9 : ¬ (0 ≤ x ∧ x < T.length) → K (some (.int (iI (-1)))) (lwW f il m1 m2 m3 hs nx cz rf sl t1 t2 sm sh pg le lo sv cn ml b9 t0 s dr kp ps pm ik rs f2 il2 ec eo fr tt tk vl tn stm sts op wi ops opn tp pu ip nb ou ol oa ex)) : WQ M_R_outputByte (d + 6) 0 0 [.ref 0, .int (iI x)] (lwW f il m1 m2 m3 hs nx cz rf sl t1 t2 sm sh pg le lo sv cn ml b9 t0 s dr kp ps pm ik rs f2 il2 ec eo fr tt tk vl tn stm sts op wi ops opn tp pu ip nb ou ol oa ex) K KX := by
  obtain ⟨N, k, rfl, hN, hcN, hb⟩ := hS.get (t0 := t0) (s := s) (dr := dr) (kp := kp) (ps := ps) (pm := pm) (ik := ik) (rs := rs) (f2 := f2) (il2 := il2) (ec := ec) (eo := eo) (fr := fr) (tt := tt) (tk := tk) (vl := vl) (tn := tn) (stm := stm) (sts := sts) (op := op) (wi := wi) (ops := ops) (opn := opn) (tp := tp) (pu := pu) (ip := ip) (nb := nb) (oa := oa) hO9
  rw [lw_vv] at f9 ⊢
  refine c_R_outputByte hx hB hb hN hO hcN (fun c a1 a2 => ?_) f9
  have q9 := t9 c a1 a2
  rw [lw_vv] at q9
  exact q9
