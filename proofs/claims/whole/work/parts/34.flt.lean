/-! FLOATING NUMBERS that are no NaN -/
/-- a datum that has an encoding, and is a number or an infinity -/
def okD (d : Jvm.FP.Core.Datum) : Prop := match d with
  | .nan => False
  | .inf _ => True
  | .fin _ c q => c < 9007199254740992 ∧ q ≤ 971
theorem okD_bound {s : Bool} {c : Nat} {q : Int} (hc : c < 9007199254740992) : okD (Jvm.FP.Core.bound Jvm.FP.Core.b64 s c q) := by
  unfold Jvm.FP.Core.bound
  by_cases h : q ≤ Jvm.FP.Core.b64.qmax
  · rw [if_pos h]
    exact ⟨hc, h⟩
  · rw [if_neg h]
    trivial
theorem okD_settle {s : Bool} {c : Nat} {q : Int} : okD (Jvm.FP.Core.settle Jvm.FP.Core.b64 s c q) := by
  unfold Jvm.FP.Core.settle
  by_cases h : c < 2 ^ Jvm.FP.Core.b64.p
  · rw [if_pos h]
    exact okD_bound h
  · rw [if_neg h]
    exact okD_bound (by decide)
theorem okD_ratio {s : Bool} {n d : Nat} {e : Int} : okD (Jvm.FP.Core.roundRatio Jvm.FP.Core.b64 s n d e) := by
  unfold Jvm.FP.Core.roundRatio
  by_cases h : n = 0
  · rw [if_pos h]
    exact ⟨by decide, by decide⟩
  · rw [if_neg h]
    exact okD_settle
theorem okD_enc {d : Jvm.FP.Core.Datum} (h : okD d) : Jvm.FP.Core.encode Jvm.FP.Core.b64 d < 18446744073709551616 ∧ Jvm.FP.Core.encode Jvm.FP.Core.b64 d % 9223372036854775808 ≤ 9218868437227405312 := by
  have e1 : Jvm.FP.Core.b64.exps = 2048 := by decide
  have e2 : Jvm.FP.Core.b64.tails = 4503599627370496 := by decide
  have e3 : Jvm.FP.Core.b64.qmin = -1074 := by decide
  cases d with
  | nan => exact h.elim
  | inf s => cases s <;> decide
  | fin s c q =>
    obtain ⟨h1, h2⟩ := h
    unfold Jvm.FP.Core.encode Jvm.FP.Core.assemble
    simp only [e1, e2, e3]
    by_cases hc : c < 4503599627370496
    · rw [if_pos hc]
      cases s <;> simp only [Bool.toNat_false, Bool.toNat_true] <;> omega
    · rw [if_neg hc]
      cases s <;> simp only [Bool.toNat_false, Bool.toNat_true] <;> omega
theorem dec_nn {n : Nat} (h1 : n < 18446744073709551616) (h2 : n % 9223372036854775808 ≤ 9218868437227405312) : Jvm.FP.Core.decode Jvm.FP.Core.b64 n ≠ .nan := by
  have e1 : Jvm.FP.Core.b64.exps = 2048 := by decide
  have e2 : Jvm.FP.Core.b64.tails = 4503599627370496 := by decide
  unfold Jvm.FP.Core.decode Jvm.FP.Core.fieldE Jvm.FP.Core.fieldT
  simp only [e1, e2]
  split
  · split
    · exact fun h => Jvm.FP.Core.Datum.noConfusion h
    · omega
  · split <;> exact fun h => Jvm.FP.Core.Datum.noConfusion h
theorem n64_of {n : Nat} (h1 : n < 18446744073709551616) (h2 : n % 9223372036854775808 ≤ 9218868437227405312) : vf_n64 (UInt64.ofNat n) := by
  unfold vf_n64
  rw [UInt64.le_iff_toNat_le, UInt64.toNat_and]
  have e : (UInt64.ofNat n).toNat = n := by
    rw [UInt64.toNat_ofNat']
    exact Nat.mod_eq_of_lt h1
  rw [e, show (0x7fffffffffffffff : UInt64).toNat = 2 ^ 63 - 1 from rfl, Nat.and_two_pow_sub_one_eq_mod]
  exact h2
theorem quot_ok {a : Jvm.FP.Core.Datum} (h : a ≠ .nan) {t : Bool} {d : Nat} {r : Int} (hd : d ≠ 0) : okD (Jvm.FP.Core.quotient Jvm.FP.Core.b64 a (.fin t d r)) := by
  cases a with
  | nan => exact absurd rfl h
  | inf s => exact trivial
  | fin s c q =>
    show okD (if d = 0 then _ else _)
    rw [if_neg hd]
    exact okD_ratio
theorem l2d_nn (x : Int64) : Jvm.FP.Core.decode Jvm.FP.Core.b64 (FP.l2d x).toNat ≠ .nan := by
  have h : okD (Jvm.FP.Core.round Jvm.FP.Core.b64 (Jvm.FP.Core.ofInt x.toInt)) := okD_ratio
  obtain ⟨h1, h2⟩ := okD_enc h
  have e : (FP.l2d x).toNat = Jvm.FP.Core.encode Jvm.FP.Core.b64 (Jvm.FP.Core.round Jvm.FP.Core.b64 (Jvm.FP.Core.ofInt x.toInt)) := by
    show (UInt64.ofNat _).toNat = _
    rw [UInt64.toNat_ofNat']
    exact Nat.mod_eq_of_lt h1
  rw [e]
  exact dec_nn h1 h2
theorem div8_n (x : Int64) : vf_n64 (FP.ddiv (FP.l2d x) 4620693217682128896) := by
  have h := quot_ok (l2d_nn x) (t := false) (d := 4503599627370496) (r := -49) (by decide)
  obtain ⟨h1, h2⟩ := okD_enc h
  refine n64_of (n := Jvm.FP.Core.div Jvm.FP.Core.b64 (FP.l2d x).toNat (4620693217682128896 : UInt64).toNat) ?_ ?_
  · have e : Jvm.FP.Core.decode Jvm.FP.Core.b64 (4620693217682128896 : UInt64).toNat = .fin false 4503599627370496 (-49) := by decide +kernel
    unfold Jvm.FP.Core.div
    rw [e]
    exact h1
  · have e : Jvm.FP.Core.decode Jvm.FP.Core.b64 (4620693217682128896 : UInt64).toNat = .fin false 4503599627370496 (-49) := by decide +kernel
    unfold Jvm.FP.Core.div
    rw [e]
    exact h2
theorem n64_dec {r : UInt64} (h : vf_n64 r) : Jvm.FP.Core.decode Jvm.FP.Core.b64 r.toNat ≠ .nan := by
  unfold vf_n64 at h
  rw [UInt64.le_iff_toNat_le, UInt64.toNat_and, show (0x7fffffffffffffff : UInt64).toNat = 2 ^ 63 - 1 from rfl, Nat.and_two_pow_sub_one_eq_mod] at h
  exact dec_nn r.toNat_lt h
/-- such a number is equal to itself -/
theorem dcmp_self {r : UInt64} (h : vf_n64 r) : FP.dcmp r r = some .eq := by
  have h1 := n64_dec h
  show Jvm.FP.Core.order (Jvm.FP.Core.decode Jvm.FP.Core.b64 r.toNat) (Jvm.FP.Core.decode Jvm.FP.Core.b64 r.toNat) = some .eq
  cases hd : Jvm.FP.Core.decode Jvm.FP.Core.b64 r.toNat with
  | nan => exact absurd hd h1
  | inf s => cases s <;> decide
  | fin s c q =>
    show some (compare _ _) = some _
    exact congrArg some (by simp [compare, compareOfLessAndEq])
/-- the share of zeros -/
theorem shr_all : ∀ n : Fin 7, 2 ≤ n.val → ∀ z : Fin 49, (FP.fdiv (FP.i2f (iI (z.val : Int))) (FP.i2f (iI (8 * (n.val : Int)))) &&& 0x7fffffff ≤ 0x7f800000) ∧ (FP.f2d (FP.fdiv (FP.i2f (iI (z.val : Int))) (FP.i2f (iI (8 * (n.val : Int))))) &&& 0x7fffffffffffffff ≤ 0x7ff0000000000000) := by decide +kernel
theorem shr_n {n z : Int} (n2 : 2 ≤ n) (n6 : n ≤ 6) (z0 : 0 ≤ z) (z1 : z ≤ 48) : vf_n32 (FP.fdiv (FP.i2f (iI z)) (FP.i2f (iI (8 * n)))) ∧ vf_n64 (FP.f2d (FP.fdiv (FP.i2f (iI z)) (FP.i2f (iI (8 * n))))) := by
  have := shr_all ⟨n.toNat, by omega⟩ (by show 2 ≤ n.toNat; omega) ⟨z.toNat, by omega⟩
  simp only at this
  rw [show ((n.toNat : Nat) : Int) = n by omega, show ((z.toNat : Nat) : Int) = z by omega] at this
  exact this
/-! the reference's mean, and its share of zeros -/
def meanF (num : Nat → Int) : UInt64 := FP.ddiv (FP.l2d (lI (smP num 8))) 4620693217682128896
theorem lq_mean {d mc ms : Nat} {t0 pm ik il ec eo fr tt tk vl tn sts ops opn tp ip ol : Int} {s dr kp ps rs stm op wi pu nb ou : Nat → Int} {f : Nat → Int32} {n ck st wh rg : Int} {md wt num acc : Nat → Int} {K : Option Value → PW → Prop} {KX : String → PW → Prop} (hq : QOk s n ck st wh rg md wt num acc) (h : K (some (.double (meanF num))) (mmW t0 s dr kp ps pm ik rs f il ec eo fr tt tk vl tn stm sts op wi ops opn tp pu ip nb ou ol)) : ∀ (q : Nat) (i : Int), i + q = 8 → 0 ≤ i →
    GO M_Mm_mean (d + 4) mc ms 9 [some (.ref 0), some (.long (lI (smP num i.toNat))), none, some (.int (iI i))] [] (mmW t0 s dr kp ps pm ik rs f il ec eo fr tt tk vl tn stm sts op wi ops opn tp pu ip nb ou ol) K KX := by
  intro q
  induction q with
  | zero =>
    intro i hi i0
    have e : i = 8 := by omega
    subst e
    refine run k_Mm_mean [] 900 ?_
    (repeat ((conv => whnf); simp (disch := omega) only [Int.cast_ofNat_Int, Int.reduceToNat, iI_tt, Int.toNat_natCast, iI_add, iI_sub, iI_mul, iI_neg, lI_add, lI_sub, lI_mul, lI_neg, i2l_, l2i_, iI_lt, iI_le, iI_eq, lI_lt, lI_le, lI_eq, iI_lt0, iI_le0, iI_0lt, iI_0le, iI_eq0, iI_eq1, lI_lt0, lI_le0, lI_0lt, lI_0le, lI_eq0, ix_cl, ix_iff, upd_iI, updL_lI, lI_divF, lI_remF, iI_divF, iI_remF, em_eq, Int.not_lt, Int.not_le, true_implies, false_implies, and_true, true_and, not_true_eq_false, not_false_eq_true, true_or, or_true, or_false, false_or])); (conv => whnf)
    (repeat ((conv => whnf); simp (disch := omega) only [Int.cast_ofNat_Int, Int.reduceToNat, iI_tt, Int.toNat_natCast, iI_add, iI_sub, iI_mul, iI_neg, lI_add, lI_sub, lI_mul, lI_neg, i2l_, l2i_, iI_lt, iI_le, iI_eq, lI_lt, lI_le, lI_eq, iI_lt0, iI_le0, iI_0lt, iI_0le, iI_eq0, iI_eq1, lI_lt0, lI_le0, lI_0lt, lI_0le, lI_eq0, ix_cl, ix_iff, upd_iI, updL_lI, lI_divF, lI_remF, iI_divF, iI_remF, em_eq, Int.not_lt, Int.not_le, true_implies, false_implies, and_true, true_and, not_true_eq_false, not_false_eq_true, true_or, or_true, or_false, false_or])); (conv => whnf)
    repeat' ((first | (refine ⟨fun _ => ?_, fun hb => absurd hb (by omega)⟩) | (refine ⟨fun hb => absurd hb (by omega), fun _ => ?_⟩) | (refine ⟨by omega, ?_⟩) | (refine ⟨⟨by omega, (by (conv => whnf); exact trivial)⟩, ?_⟩) | (refine ⟨(Nat.le_of_ble_eq_true rfl), bWp_ok _ (by (conv => whnf); exact trivial), ?_⟩) | (refine ⟨fun _ => ?_, fun _ => ?_⟩) | fail) <;> ((repeat ((conv => whnf); simp (disch := omega) only [Int.cast_ofNat_Int, Int.reduceToNat, iI_tt, Int.toNat_natCast, iI_add, iI_sub, iI_mul, iI_neg, lI_add, lI_sub, lI_mul, lI_neg, i2l_, l2i_, iI_lt, iI_le, iI_eq, lI_lt, lI_le, lI_eq, iI_lt0, iI_le0, iI_0lt, iI_0le, iI_eq0, iI_eq1, lI_lt0, lI_le0, lI_0lt, lI_0le, lI_eq0, ix_cl, ix_iff, upd_iI, updL_lI, lI_divF, lI_remF, iI_divF, iI_remF, em_eq, Int.not_lt, Int.not_le, true_implies, false_implies, and_true, true_and, not_true_eq_false, not_false_eq_true, true_or, or_true, or_false, false_or])); (conv => whnf)))
    exact ⟨div8_n _, h⟩
  | succ q ih =>
    intro i hi i0
    refine run k_Mm_mean [9] 900 ?_
    (repeat ((conv => whnf); simp (disch := omega) only [Int.cast_ofNat_Int, Int.reduceToNat, iI_tt, Int.toNat_natCast, iI_add, iI_sub, iI_mul, iI_neg, lI_add, lI_sub, lI_mul, lI_neg, i2l_, l2i_, iI_lt, iI_le, iI_eq, lI_lt, lI_le, lI_eq, iI_lt0, iI_le0, iI_0lt, iI_0le, iI_eq0, iI_eq1, lI_lt0, lI_le0, lI_0lt, lI_0le, lI_eq0, ix_cl, ix_iff, upd_iI, updL_lI, lI_divF, lI_remF, iI_divF, iI_remF, em_eq, Int.not_lt, Int.not_le, true_implies, false_implies, and_true, true_and, not_true_eq_false, not_false_eq_true, true_or, or_true, or_false, false_or])); (conv => whnf)
    (repeat ((conv => whnf); simp (disch := omega) only [Int.cast_ofNat_Int, Int.reduceToNat, iI_tt, Int.toNat_natCast, iI_add, iI_sub, iI_mul, iI_neg, lI_add, lI_sub, lI_mul, lI_neg, i2l_, l2i_, iI_lt, iI_le, iI_eq, lI_lt, lI_le, lI_eq, iI_lt0, iI_le0, iI_0lt, iI_0le, iI_eq0, iI_eq1, lI_lt0, lI_le0, lI_0lt, lI_0le, lI_eq0, ix_cl, ix_iff, upd_iI, updL_lI, lI_divF, lI_remF, iI_divF, iI_remF, em_eq, Int.not_lt, Int.not_le, true_implies, false_implies, and_true, true_and, not_true_eq_false, not_false_eq_true, true_or, or_true, or_false, false_or])); (conv => whnf)
    repeat' ((first | (refine ⟨fun _ => ?_, fun hb => absurd hb (by omega)⟩) | (refine ⟨fun hb => absurd hb (by omega), fun _ => ?_⟩) | (refine ⟨by omega, ?_⟩) | (refine ⟨⟨by omega, (by (conv => whnf); exact trivial)⟩, ?_⟩) | (refine ⟨(Nat.le_of_ble_eq_true rfl), bWp_ok _ (by (conv => whnf); exact trivial), ?_⟩) | (refine ⟨fun _ => ?_, fun _ => ?_⟩) | fail) <;> ((repeat ((conv => whnf); simp (disch := omega) only [Int.cast_ofNat_Int, Int.reduceToNat, iI_tt, Int.toNat_natCast, iI_add, iI_sub, iI_mul, iI_neg, lI_add, lI_sub, lI_mul, lI_neg, i2l_, l2i_, iI_lt, iI_le, iI_eq, lI_lt, lI_le, lI_eq, iI_lt0, iI_le0, iI_0lt, iI_0le, iI_eq0, iI_eq1, lI_lt0, lI_le0, lI_0lt, lI_0le, lI_eq0, ix_cl, ix_iff, upd_iI, updL_lI, lI_divF, lI_remF, iI_divF, iI_remF, em_eq, Int.not_lt, Int.not_le, true_implies, false_implies, and_true, true_and, not_true_eq_false, not_false_eq_true, true_or, or_true, or_false, false_or])); (conv => whnf)))
    refine cQ_numberOf hq i0 (by omega) ?_
    (repeat ((conv => whnf); simp (disch := omega) only [Int.cast_ofNat_Int, Int.reduceToNat, iI_tt, Int.toNat_natCast, iI_add, iI_sub, iI_mul, iI_neg, lI_add, lI_sub, lI_mul, lI_neg, i2l_, l2i_, iI_lt, iI_le, iI_eq, lI_lt, lI_le, lI_eq, iI_lt0, iI_le0, iI_0lt, iI_0le, iI_eq0, iI_eq1, lI_lt0, lI_le0, lI_0lt, lI_0le, lI_eq0, ix_cl, ix_iff, upd_iI, updL_lI, lI_divF, lI_remF, iI_divF, iI_remF, em_eq, Int.not_lt, Int.not_le, true_implies, false_implies, and_true, true_and, not_true_eq_false, not_false_eq_true, true_or, or_true, or_false, false_or])); (conv => whnf)
    rw [← smP_s i0]
    exact ih (i + 1) (by omega) (by omega)
theorem c_Mm_mean {d mc ms : Nat} {t0 pm ik il ec eo fr tt tk vl tn sts ops opn tp ip ol : Int} {s dr kp ps rs stm op wi pu nb ou : Nat → Int} {f : Nat → Int32} {n ck st wh rg : Int} {md wt num acc : Nat → Int} {K : Option Value → PW → Prop} {KX : String → PW → Prop} (hq : QOk s n ck st wh rg md wt num acc) (h : K (some (.double (meanF num))) (mmW (0) s dr kp ps pm ik rs f il ec eo fr tt tk vl tn stm sts op wi ops opn tp pu ip nb ou ol)) : WQ M_Mm_mean (d + 4) mc ms [.ref 0] (mmW t0 s dr kp ps pm ik rs f il ec eo fr tt tk vl tn stm sts op wi ops opn tp pu ip nb ou ol) K KX := by
  refine methC (pf_Mm rfl) (tz_Mm rfl) rfl ?_
  refine run k_Mm_mean [9] 900 ?_
  (repeat ((conv => whnf); simp (disch := omega) only [Int.cast_ofNat_Int, Int.reduceToNat, iI_tt, Int.toNat_natCast, iI_add, iI_sub, iI_mul, iI_neg, lI_add, lI_sub, lI_mul, lI_neg, i2l_, l2i_, iI_lt, iI_le, iI_eq, lI_lt, lI_le, lI_eq, iI_lt0, iI_le0, iI_0lt, iI_0le, iI_eq0, iI_eq1, lI_lt0, lI_le0, lI_0lt, lI_0le, lI_eq0, ix_cl, ix_iff, upd_iI, updL_lI, lI_divF, lI_remF, iI_divF, iI_remF, em_eq, Int.not_lt, Int.not_le, true_implies, false_implies, and_true, true_and, not_true_eq_false, not_false_eq_true, true_or, or_true, or_false, false_or])); (conv => whnf)
  exact lq_mean hq h 8 0 (by omega) (by omega)
theorem cnt_b {p : Nat → Bool} : ∀ k : Nat, 0 ≤ cnt p k ∧ cnt p k ≤ k
  | 0 => by simp [cnt]
  | k + 1 => by
    have := cnt_b (p := p) k
    show 0 ≤ cnt p k + (if p k = true then 1 else 0) ∧ cnt p k + (if p k = true then 1 else 0) ≤ _
    split <;> omega
def zrF (n : Int) (md num : Nat → Int) (r : Nat) : Int := cnt (fun k => num r % md k == 0) n.toNat
def shrF (n : Int) (md num : Nat → Int) : UInt32 := FP.fdiv (FP.i2f (iI (smP (zrF n md num) 8))) (FP.i2f (iI (8 * n)))
theorem zr_b {n : Int} {md num : Nat → Int} (h0 : 0 ≤ n) (h6 : n ≤ 6) : ∀ i : Nat, 0 ≤ smP (zrF n md num) i ∧ smP (zrF n md num) i ≤ 6 * i
  | 0 => by simp [smP]
  | i + 1 => by
    have := zr_b (md := md) (num := num) h0 h6 i
    have h2 := cnt_b (p := fun k => num i % md k == 0) n.toNat
    show 0 ≤ smP (zrF n md num) i + zrF n md num i ∧ smP (zrF n md num) i + zrF n md num i ≤ _
    unfold zrF at *
    omega
theorem lq_zs1 {d mc ms : Nat} {t0 pm ik il ec eo fr tt tk vl tn sts ops opn tp ip ol : Int} {s dr kp ps rs stm op wi pu nb ou : Nat → Int} {f : Nat → Int32} {n ck st wh rg : Int} {md wt num acc : Nat → Int} {K : Option Value → PW → Prop} {KX : String → PW → Prop} {i Z : Int} (hq : QOk s n ck st wh rg md wt num acc) (i0 : 0 ≤ i) (i8 : i < 8) (h : GO M_Mm_zeroShare (d + 2) mc ms 9 [some (.ref 0), some (.int (iI (Z + zrF n md num i.toNat))), some (.int (iI (i + 1)))] [] (mmW t0 s dr kp ps pm ik rs f il ec eo fr tt tk vl tn stm sts op wi ops opn tp pu ip nb ou ol) K KX) : ∀ (q : Nat) (j : Int), j + q = n → 0 ≤ j →
    GO M_Mm_zeroShare (d + 2) mc ms 17 [some (.ref 0), some (.int (iI (Z + cnt (fun k => num i.toNat % md k == 0) j.toNat))), some (.int (iI i)), some (.int (iI j))] [] (mmW t0 s dr kp ps pm ik rs f il ec eo fr tt tk vl tn stm sts op wi ops opn tp pu ip nb ou ol) K KX := by
  have h6 := hq.n6
  intro q
  induction q with
  | zero =>
    intro j hj j0
    have e : j = n := by omega
    subst e
    refine run k_Mm_zeroShare [9] 900 ?_
    (repeat ((conv => whnf); simp (disch := omega) only [Int.cast_ofNat_Int, Int.reduceToNat, iI_tt, Int.toNat_natCast, iI_add, iI_sub, iI_mul, iI_neg, lI_add, lI_sub, lI_mul, lI_neg, i2l_, l2i_, iI_lt, iI_le, iI_eq, lI_lt, lI_le, lI_eq, iI_lt0, iI_le0, iI_0lt, iI_0le, iI_eq0, iI_eq1, lI_lt0, lI_le0, lI_0lt, lI_0le, lI_eq0, ix_cl, ix_iff, upd_iI, updL_lI, lI_divF, lI_remF, iI_divF, iI_remF, em_eq, Int.not_lt, Int.not_le, true_implies, false_implies, and_true, true_and, not_true_eq_false, not_false_eq_true, true_or, or_true, or_false, false_or])); (conv => whnf)
    refine c_Mm_many hq.rb ?_
    (repeat ((conv => whnf); simp (disch := omega) only [Int.cast_ofNat_Int, Int.reduceToNat, iI_tt, Int.toNat_natCast, iI_add, iI_sub, iI_mul, iI_neg, lI_add, lI_sub, lI_mul, lI_neg, i2l_, l2i_, iI_lt, iI_le, iI_eq, lI_lt, lI_le, lI_eq, iI_lt0, iI_le0, iI_0lt, iI_0le, iI_eq0, iI_eq1, lI_lt0, lI_le0, lI_0lt, lI_0le, lI_eq0, ix_cl, ix_iff, upd_iI, updL_lI, lI_divF, lI_remF, iI_divF, iI_remF, em_eq, Int.not_lt, Int.not_le, true_implies, false_implies, and_true, true_and, not_true_eq_false, not_false_eq_true, true_or, or_true, or_false, false_or])); (conv => whnf)
    (repeat ((conv => whnf); simp (disch := omega) only [Int.cast_ofNat_Int, Int.reduceToNat, iI_tt, Int.toNat_natCast, iI_add, iI_sub, iI_mul, iI_neg, lI_add, lI_sub, lI_mul, lI_neg, i2l_, l2i_, iI_lt, iI_le, iI_eq, lI_lt, lI_le, lI_eq, iI_lt0, iI_le0, iI_0lt, iI_0le, iI_eq0, iI_eq1, lI_lt0, lI_le0, lI_0lt, lI_0le, lI_eq0, ix_cl, ix_iff, upd_iI, updL_lI, lI_divF, lI_remF, iI_divF, iI_remF, em_eq, Int.not_lt, Int.not_le, true_implies, false_implies, and_true, true_and, not_true_eq_false, not_false_eq_true, true_or, or_true, or_false, false_or])); (conv => whnf)
    repeat' ((first | (refine ⟨fun _ => ?_, fun hb => absurd hb (by omega)⟩) | (refine ⟨fun hb => absurd hb (by omega), fun _ => ?_⟩) | (refine ⟨by omega, ?_⟩) | (refine ⟨⟨by omega, (by (conv => whnf); exact trivial)⟩, ?_⟩) | (refine ⟨(Nat.le_of_ble_eq_true rfl), bWp_ok _ (by (conv => whnf); exact trivial), ?_⟩) | (refine ⟨fun _ => ?_, fun _ => ?_⟩) | fail) <;> ((repeat ((conv => whnf); simp (disch := omega) only [Int.cast_ofNat_Int, Int.reduceToNat, iI_tt, Int.toNat_natCast, iI_add, iI_sub, iI_mul, iI_neg, lI_add, lI_sub, lI_mul, lI_neg, i2l_, l2i_, iI_lt, iI_le, iI_eq, lI_lt, lI_le, lI_eq, iI_lt0, iI_le0, iI_0lt, iI_0le, iI_eq0, iI_eq1, lI_lt0, lI_le0, lI_0lt, lI_0le, lI_eq0, ix_cl, ix_iff, upd_iI, updL_lI, lI_divF, lI_remF, iI_divF, iI_remF, em_eq, Int.not_lt, Int.not_le, true_implies, false_implies, and_true, true_and, not_true_eq_false, not_false_eq_true, true_or, or_true, or_false, false_or])); (conv => whnf)))
    exact GO_take 3 h
  | succ q ih =>
    intro j hj j0
    have hk := hq.rm.2 j.toNat (by omega)
    have e0 := Int.emod_nonneg (num i.toNat) (b := md j.toNat) (by omega)
    have e1 := Int.emod_lt_of_pos (num i.toNat) (b := md j.toNat) (by omega)
    refine run k_Mm_zeroShare [17] 900 ?_
    (repeat ((conv => whnf); simp (disch := omega) only [Int.cast_ofNat_Int, Int.reduceToNat, iI_tt, Int.toNat_natCast, iI_add, iI_sub, iI_mul, iI_neg, lI_add, lI_sub, lI_mul, lI_neg, i2l_, l2i_, iI_lt, iI_le, iI_eq, lI_lt, lI_le, lI_eq, iI_lt0, iI_le0, iI_0lt, iI_0le, iI_eq0, iI_eq1, lI_lt0, lI_le0, lI_0lt, lI_0le, lI_eq0, ix_cl, ix_iff, upd_iI, updL_lI, lI_divF, lI_remF, iI_divF, iI_remF, em_eq, Int.not_lt, Int.not_le, true_implies, false_implies, and_true, true_and, not_true_eq_false, not_false_eq_true, true_or, or_true, or_false, false_or])); (conv => whnf)
    refine c_Mm_many hq.rb ?_
    (repeat ((conv => whnf); simp (disch := omega) only [Int.cast_ofNat_Int, Int.reduceToNat, iI_tt, Int.toNat_natCast, iI_add, iI_sub, iI_mul, iI_neg, lI_add, lI_sub, lI_mul, lI_neg, i2l_, l2i_, iI_lt, iI_le, iI_eq, lI_lt, lI_le, lI_eq, iI_lt0, iI_le0, iI_0lt, iI_0le, iI_eq0, iI_eq1, lI_lt0, lI_le0, lI_0lt, lI_0le, lI_eq0, ix_cl, ix_iff, upd_iI, updL_lI, lI_divF, lI_remF, iI_divF, iI_remF, em_eq, Int.not_lt, Int.not_le, true_implies, false_implies, and_true, true_and, not_true_eq_false, not_false_eq_true, true_or, or_true, or_false, false_or])); (conv => whnf)
    (repeat ((conv => whnf); simp (disch := omega) only [Int.cast_ofNat_Int, Int.reduceToNat, iI_tt, Int.toNat_natCast, iI_add, iI_sub, iI_mul, iI_neg, lI_add, lI_sub, lI_mul, lI_neg, i2l_, l2i_, iI_lt, iI_le, iI_eq, lI_lt, lI_le, lI_eq, iI_lt0, iI_le0, iI_0lt, iI_0le, iI_eq0, iI_eq1, lI_lt0, lI_le0, lI_0lt, lI_0le, lI_eq0, ix_cl, ix_iff, upd_iI, updL_lI, lI_divF, lI_remF, iI_divF, iI_remF, em_eq, Int.not_lt, Int.not_le, true_implies, false_implies, and_true, true_and, not_true_eq_false, not_false_eq_true, true_or, or_true, or_false, false_or])); (conv => whnf)
    repeat' ((first | (refine ⟨fun _ => ?_, fun hb => absurd hb (by omega)⟩) | (refine ⟨fun hb => absurd hb (by omega), fun _ => ?_⟩) | (refine ⟨by omega, ?_⟩) | (refine ⟨⟨by omega, (by (conv => whnf); exact trivial)⟩, ?_⟩) | (refine ⟨(Nat.le_of_ble_eq_true rfl), bWp_ok _ (by (conv => whnf); exact trivial), ?_⟩) | (refine ⟨fun _ => ?_, fun _ => ?_⟩) | fail) <;> ((repeat ((conv => whnf); simp (disch := omega) only [Int.cast_ofNat_Int, Int.reduceToNat, iI_tt, Int.toNat_natCast, iI_add, iI_sub, iI_mul, iI_neg, lI_add, lI_sub, lI_mul, lI_neg, i2l_, l2i_, iI_lt, iI_le, iI_eq, lI_lt, lI_le, lI_eq, iI_lt0, iI_le0, iI_0lt, iI_0le, iI_eq0, iI_eq1, lI_lt0, lI_le0, lI_0lt, lI_0le, lI_eq0, ix_cl, ix_iff, upd_iI, updL_lI, lI_divF, lI_remF, iI_divF, iI_remF, em_eq, Int.not_lt, Int.not_le, true_implies, false_implies, and_true, true_and, not_true_eq_false, not_false_eq_true, true_or, or_true, or_false, false_or])); (conv => whnf)))
    refine cQ_restOf hq i0 i8 j0 (by omega) ?_
    (repeat ((conv => whnf); simp (disch := omega) only [Int.cast_ofNat_Int, Int.reduceToNat, iI_tt, Int.toNat_natCast, iI_add, iI_sub, iI_mul, iI_neg, lI_add, lI_sub, lI_mul, lI_neg, i2l_, l2i_, iI_lt, iI_le, iI_eq, lI_lt, lI_le, lI_eq, iI_lt0, iI_le0, iI_0lt, iI_0le, iI_eq0, iI_eq1, lI_lt0, lI_le0, lI_0lt, lI_0le, lI_eq0, ix_cl, ix_iff, upd_iI, updL_lI, lI_divF, lI_remF, iI_divF, iI_remF, em_eq, Int.not_lt, Int.not_le, true_implies, false_implies, and_true, true_and, not_true_eq_false, not_false_eq_true, true_or, or_true, or_false, false_or])); (conv => whnf)
    (repeat ((conv => whnf); simp (disch := omega) only [Int.cast_ofNat_Int, Int.reduceToNat, iI_tt, Int.toNat_natCast, iI_add, iI_sub, iI_mul, iI_neg, lI_add, lI_sub, lI_mul, lI_neg, i2l_, l2i_, iI_lt, iI_le, iI_eq, lI_lt, lI_le, lI_eq, iI_lt0, iI_le0, iI_0lt, iI_0le, iI_eq0, iI_eq1, lI_lt0, lI_le0, lI_0lt, lI_0le, lI_eq0, ix_cl, ix_iff, upd_iI, updL_lI, lI_divF, lI_remF, iI_divF, iI_remF, em_eq, Int.not_lt, Int.not_le, true_implies, false_implies, and_true, true_and, not_true_eq_false, not_false_eq_true, true_or, or_true, or_false, false_or])); (conv => whnf)
    repeat' ((first | (refine ⟨fun _ => ?_, fun hb => absurd hb (by omega)⟩) | (refine ⟨fun hb => absurd hb (by omega), fun _ => ?_⟩) | (refine ⟨by omega, ?_⟩) | (refine ⟨⟨by omega, (by (conv => whnf); exact trivial)⟩, ?_⟩) | (refine ⟨(Nat.le_of_ble_eq_true rfl), bWp_ok _ (by (conv => whnf); exact trivial), ?_⟩) | (refine ⟨fun _ => ?_, fun _ => ?_⟩) | fail) <;> ((repeat ((conv => whnf); simp (disch := omega) only [Int.cast_ofNat_Int, Int.reduceToNat, iI_tt, Int.toNat_natCast, iI_add, iI_sub, iI_mul, iI_neg, lI_add, lI_sub, lI_mul, lI_neg, i2l_, l2i_, iI_lt, iI_le, iI_eq, lI_lt, lI_le, lI_eq, iI_lt0, iI_le0, iI_0lt, iI_0le, iI_eq0, iI_eq1, lI_lt0, lI_le0, lI_0lt, lI_0le, lI_eq0, ix_cl, ix_iff, upd_iI, updL_lI, lI_divF, lI_remF, iI_divF, iI_remF, em_eq, Int.not_lt, Int.not_le, true_implies, false_implies, and_true, true_and, not_true_eq_false, not_false_eq_true, true_or, or_true, or_false, false_or])); (conv => whnf)))
    · rw [← cnt_f j0 (p := fun k => num i.toNat % md k == 0) (by simp; omega)]
      exact ih (j + 1) (by omega) (by omega)
    · rw [Int.add_assoc, ← cnt_t j0 (p := fun k => num i.toNat % md k == 0) (by simp; omega)]
      exact ih (j + 1) (by omega) (by omega)
theorem lq_zs {d mc ms : Nat} {t0 pm ik il ec eo fr tt tk vl tn sts ops opn tp ip ol : Int} {s dr kp ps rs stm op wi pu nb ou : Nat → Int} {f : Nat → Int32} {n ck st wh rg : Int} {md wt num acc : Nat → Int} {K : Option Value → PW → Prop} {KX : String → PW → Prop} (hq : QOk s n ck st wh rg md wt num acc) (h : K (some (.float (shrF n md num))) (mmW t0 s dr kp ps pm ik rs f il ec eo fr tt tk vl tn stm sts op wi ops opn tp pu ip nb ou ol)) : ∀ (q : Nat) (i : Int), i + q = 8 → 0 ≤ i →
    GO M_Mm_zeroShare (d + 2) mc ms 9 [some (.ref 0), some (.int (iI (smP (zrF n md num) i.toNat))), some (.int (iI i))] [] (mmW t0 s dr kp ps pm ik rs f il ec eo fr tt tk vl tn stm sts op wi ops opn tp pu ip nb ou ol) K KX := by
  have h6 := hq.n6
  have hn2 := hq.n2
  intro q
  induction q with
  | zero =>
    intro i hi i0
    have e : i = 8 := by omega
    subst e
    have h8 := zr_b (md := md) (num := num) h6.1 h6.2 8
    refine run k_Mm_zeroShare [] 900 ?_
    (repeat ((conv => whnf); simp (disch := omega) only [Int.cast_ofNat_Int, Int.reduceToNat, iI_tt, Int.toNat_natCast, iI_add, iI_sub, iI_mul, iI_neg, lI_add, lI_sub, lI_mul, lI_neg, i2l_, l2i_, iI_lt, iI_le, iI_eq, lI_lt, lI_le, lI_eq, iI_lt0, iI_le0, iI_0lt, iI_0le, iI_eq0, iI_eq1, lI_lt0, lI_le0, lI_0lt, lI_0le, lI_eq0, ix_cl, ix_iff, upd_iI, updL_lI, lI_divF, lI_remF, iI_divF, iI_remF, em_eq, Int.not_lt, Int.not_le, true_implies, false_implies, and_true, true_and, not_true_eq_false, not_false_eq_true, true_or, or_true, or_false, false_or])); (conv => whnf)
    (repeat ((conv => whnf); simp (disch := omega) only [Int.cast_ofNat_Int, Int.reduceToNat, iI_tt, Int.toNat_natCast, iI_add, iI_sub, iI_mul, iI_neg, lI_add, lI_sub, lI_mul, lI_neg, i2l_, l2i_, iI_lt, iI_le, iI_eq, lI_lt, lI_le, lI_eq, iI_lt0, iI_le0, iI_0lt, iI_0le, iI_eq0, iI_eq1, lI_lt0, lI_le0, lI_0lt, lI_0le, lI_eq0, ix_cl, ix_iff, upd_iI, updL_lI, lI_divF, lI_remF, iI_divF, iI_remF, em_eq, Int.not_lt, Int.not_le, true_implies, false_implies, and_true, true_and, not_true_eq_false, not_false_eq_true, true_or, or_true, or_false, false_or])); (conv => whnf)
    repeat' ((first | (refine ⟨fun _ => ?_, fun hb => absurd hb (by omega)⟩) | (refine ⟨fun hb => absurd hb (by omega), fun _ => ?_⟩) | (refine ⟨by omega, ?_⟩) | (refine ⟨⟨by omega, (by (conv => whnf); exact trivial)⟩, ?_⟩) | (refine ⟨(Nat.le_of_ble_eq_true rfl), bWp_ok _ (by (conv => whnf); exact trivial), ?_⟩) | (refine ⟨fun _ => ?_, fun _ => ?_⟩) | fail) <;> ((repeat ((conv => whnf); simp (disch := omega) only [Int.cast_ofNat_Int, Int.reduceToNat, iI_tt, Int.toNat_natCast, iI_add, iI_sub, iI_mul, iI_neg, lI_add, lI_sub, lI_mul, lI_neg, i2l_, l2i_, iI_lt, iI_le, iI_eq, lI_lt, lI_le, lI_eq, iI_lt0, iI_le0, iI_0lt, iI_0le, iI_eq0, iI_eq1, lI_lt0, lI_le0, lI_0lt, lI_0le, lI_eq0, ix_cl, ix_iff, upd_iI, updL_lI, lI_divF, lI_remF, iI_divF, iI_remF, em_eq, Int.not_lt, Int.not_le, true_implies, false_implies, and_true, true_and, not_true_eq_false, not_false_eq_true, true_or, or_true, or_false, false_or])); (conv => whnf)))
    refine c_Mm_many hq.rb ?_
    (repeat ((conv => whnf); simp (disch := omega) only [Int.cast_ofNat_Int, Int.reduceToNat, iI_tt, Int.toNat_natCast, iI_add, iI_sub, iI_mul, iI_neg, lI_add, lI_sub, lI_mul, lI_neg, i2l_, l2i_, iI_lt, iI_le, iI_eq, lI_lt, lI_le, lI_eq, iI_lt0, iI_le0, iI_0lt, iI_0le, iI_eq0, iI_eq1, lI_lt0, lI_le0, lI_0lt, lI_0le, lI_eq0, ix_cl, ix_iff, upd_iI, updL_lI, lI_divF, lI_remF, iI_divF, iI_remF, em_eq, Int.not_lt, Int.not_le, true_implies, false_implies, and_true, true_and, not_true_eq_false, not_false_eq_true, true_or, or_true, or_false, false_or])); (conv => whnf)
    (repeat ((conv => whnf); simp (disch := omega) only [Int.cast_ofNat_Int, Int.reduceToNat, iI_tt, Int.toNat_natCast, iI_add, iI_sub, iI_mul, iI_neg, lI_add, lI_sub, lI_mul, lI_neg, i2l_, l2i_, iI_lt, iI_le, iI_eq, lI_lt, lI_le, lI_eq, iI_lt0, iI_le0, iI_0lt, iI_0le, iI_eq0, iI_eq1, lI_lt0, lI_le0, lI_0lt, lI_0le, lI_eq0, ix_cl, ix_iff, upd_iI, updL_lI, lI_divF, lI_remF, iI_divF, iI_remF, em_eq, Int.not_lt, Int.not_le, true_implies, false_implies, and_true, true_and, not_true_eq_false, not_false_eq_true, true_or, or_true, or_false, false_or])); (conv => whnf)
    repeat' ((first | (refine ⟨fun _ => ?_, fun hb => absurd hb (by omega)⟩) | (refine ⟨fun hb => absurd hb (by omega), fun _ => ?_⟩) | (refine ⟨by omega, ?_⟩) | (refine ⟨⟨by omega, (by (conv => whnf); exact trivial)⟩, ?_⟩) | (refine ⟨(Nat.le_of_ble_eq_true rfl), bWp_ok _ (by (conv => whnf); exact trivial), ?_⟩) | (refine ⟨fun _ => ?_, fun _ => ?_⟩) | fail) <;> ((repeat ((conv => whnf); simp (disch := omega) only [Int.cast_ofNat_Int, Int.reduceToNat, iI_tt, Int.toNat_natCast, iI_add, iI_sub, iI_mul, iI_neg, lI_add, lI_sub, lI_mul, lI_neg, i2l_, l2i_, iI_lt, iI_le, iI_eq, lI_lt, lI_le, lI_eq, iI_lt0, iI_le0, iI_0lt, iI_0le, iI_eq0, iI_eq1, lI_lt0, lI_le0, lI_0lt, lI_0le, lI_eq0, ix_cl, ix_iff, upd_iI, updL_lI, lI_divF, lI_remF, iI_divF, iI_remF, em_eq, Int.not_lt, Int.not_le, true_implies, false_implies, and_true, true_and, not_true_eq_false, not_false_eq_true, true_or, or_true, or_false, false_or])); (conv => whnf)))
    exact ⟨(shr_n hn2 h6.2 h8.1 (by omega)).1, h⟩
  | succ q ih =>
    intro i hi i0
    have := lq_zs1 (d := d) (mc := mc) (ms := ms) (K := K) (KX := KX) (i := i) (Z := smP (zrF n md num) i.toNat) hq i0 (by omega) (by rw [← smP_s i0]; exact ih (i + 1) (by omega) (by omega)) n.toNat 0 (by omega) (by omega)
    rw [show cnt (fun k => num i.toNat % md k == 0) (0 : Int).toNat = 0 from rfl, Int.add_zero] at this
    refine run k_Mm_zeroShare [17] 900 ?_
    (repeat ((conv => whnf); simp (disch := omega) only [Int.cast_ofNat_Int, Int.reduceToNat, iI_tt, Int.toNat_natCast, iI_add, iI_sub, iI_mul, iI_neg, lI_add, lI_sub, lI_mul, lI_neg, i2l_, l2i_, iI_lt, iI_le, iI_eq, lI_lt, lI_le, lI_eq, iI_lt0, iI_le0, iI_0lt, iI_0le, iI_eq0, iI_eq1, lI_lt0, lI_le0, lI_0lt, lI_0le, lI_eq0, ix_cl, ix_iff, upd_iI, updL_lI, lI_divF, lI_remF, iI_divF, iI_remF, em_eq, Int.not_lt, Int.not_le, true_implies, false_implies, and_true, true_and, not_true_eq_false, not_false_eq_true, true_or, or_true, or_false, false_or])); (conv => whnf)
    (repeat ((conv => whnf); simp (disch := omega) only [Int.cast_ofNat_Int, Int.reduceToNat, iI_tt, Int.toNat_natCast, iI_add, iI_sub, iI_mul, iI_neg, lI_add, lI_sub, lI_mul, lI_neg, i2l_, l2i_, iI_lt, iI_le, iI_eq, lI_lt, lI_le, lI_eq, iI_lt0, iI_le0, iI_0lt, iI_0le, iI_eq0, iI_eq1, lI_lt0, lI_le0, lI_0lt, lI_0le, lI_eq0, ix_cl, ix_iff, upd_iI, updL_lI, lI_divF, lI_remF, iI_divF, iI_remF, em_eq, Int.not_lt, Int.not_le, true_implies, false_implies, and_true, true_and, not_true_eq_false, not_false_eq_true, true_or, or_true, or_false, false_or])); (conv => whnf)
    repeat' ((first | (refine ⟨fun _ => ?_, fun hb => absurd hb (by omega)⟩) | (refine ⟨fun hb => absurd hb (by omega), fun _ => ?_⟩) | (refine ⟨by omega, ?_⟩) | (refine ⟨⟨by omega, (by (conv => whnf); exact trivial)⟩, ?_⟩) | (refine ⟨(Nat.le_of_ble_eq_true rfl), bWp_ok _ (by (conv => whnf); exact trivial), ?_⟩) | (refine ⟨fun _ => ?_, fun _ => ?_⟩) | fail) <;> ((repeat ((conv => whnf); simp (disch := omega) only [Int.cast_ofNat_Int, Int.reduceToNat, iI_tt, Int.toNat_natCast, iI_add, iI_sub, iI_mul, iI_neg, lI_add, lI_sub, lI_mul, lI_neg, i2l_, l2i_, iI_lt, iI_le, iI_eq, lI_lt, lI_le, lI_eq, iI_lt0, iI_le0, iI_0lt, iI_0le, iI_eq0, iI_eq1, lI_lt0, lI_le0, lI_0lt, lI_0le, lI_eq0, ix_cl, ix_iff, upd_iI, updL_lI, lI_divF, lI_remF, iI_divF, iI_remF, em_eq, Int.not_lt, Int.not_le, true_implies, false_implies, and_true, true_and, not_true_eq_false, not_false_eq_true, true_or, or_true, or_false, false_or])); (conv => whnf)))
    exact this
theorem c_Mm_zeroShare {d mc ms : Nat} {t0 pm ik il ec eo fr tt tk vl tn sts ops opn tp ip ol : Int} {s dr kp ps rs stm op wi pu nb ou : Nat → Int} {f : Nat → Int32} {n ck st wh rg : Int} {md wt num acc : Nat → Int} {K : Option Value → PW → Prop} {KX : String → PW → Prop} (hq : QOk s n ck st wh rg md wt num acc) (h : K (some (.float (shrF n md num))) (mmW (0) s dr kp ps pm ik rs f il ec eo fr tt tk vl tn stm sts op wi ops opn tp pu ip nb ou ol)) : WQ M_Mm_zeroShare (d + 2) mc ms [.ref 0] (mmW t0 s dr kp ps pm ik rs f il ec eo fr tt tk vl tn stm sts op wi ops opn tp pu ip nb ou ol) K KX := by
  refine methC (pf_Mm rfl) (tz_Mm rfl) rfl ?_
  refine run k_Mm_zeroShare [9] 900 ?_
  (repeat ((conv => whnf); simp (disch := omega) only [Int.cast_ofNat_Int, Int.reduceToNat, iI_tt, Int.toNat_natCast, iI_add, iI_sub, iI_mul, iI_neg, lI_add, lI_sub, lI_mul, lI_neg, i2l_, l2i_, iI_lt, iI_le, iI_eq, lI_lt, lI_le, lI_eq, iI_lt0, iI_le0, iI_0lt, iI_0le, iI_eq0, iI_eq1, lI_lt0, lI_le0, lI_0lt, lI_0le, lI_eq0, ix_cl, ix_iff, upd_iI, updL_lI, lI_divF, lI_remF, iI_divF, iI_remF, em_eq, Int.not_lt, Int.not_le, true_implies, false_implies, and_true, true_and, not_true_eq_false, not_false_eq_true, true_or, or_true, or_false, false_or])); (conv => whnf)
  exact lq_zs hq h 8 0 (by omega) (by omega)
