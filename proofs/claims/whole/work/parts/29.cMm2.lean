/-! THE REFERENCE: its row against a mill -/
def QOk (s : Nat → Int) (n ck st wh rg : Int) (md wt num acc : Nat → Int) : Prop := RR s n ck st md num acc ∧ MOk n ck wh rg md wt num ∧ (0 ≤ st ∧ st ≤ 1)
theorem QOk.rb {s md wt num acc : Nat → Int} {n ck st wh rg : Int} (h : QOk s n ck st wh rg md wt num acc) : RB s n ck md := ⟨⟨h.1.1.1, h.1.1.2.1⟩, h.1.2.2.1⟩
theorem QOk.rm {s md wt num acc : Nat → Int} {n ck st wh rg : Int} (h : QOk s n ck st wh rg md wt num acc) : RM n ck md := by
  obtain ⟨h1, ⟨⟨h2, h3, h4⟩, h5, h6, h7, h8⟩, h9⟩ := h
  exact ⟨⟨h2.1, h2.2.1, h2.2.2.1, h2.2.2.2.1, by omega⟩, fun k hk => ⟨(h3 k hk).1, (h3 k hk).2.1⟩⟩
theorem QOk.cop {s md wt num acc : Nat → Int} {n ck st wh rg : Int} (h : QOk s n ck st wh rg md wt num acc) : Cop md n := h.2.1.2.2.2.2.1
theorem QOk.wh {s md wt num acc : Nat → Int} {n ck st wh rg : Int} (h : QOk s n ck st wh rg md wt num acc) : PN md n.toNat = wh := h.2.1.2.2.1.symm
theorem QOk.rg {s md wt num acc : Nat → Int} {n ck st wh rg : Int} (h : QOk s n ck st wh rg md wt num acc) : PN md (n - ck).toNat = rg := h.2.1.2.2.2.1.symm
theorem QOk.nin {s md wt num acc : Nat → Int} {n ck st wh rg : Int} (h : QOk s n ck st wh rg md wt num acc) {r : Nat} (hr : r < 8) : nin (num r) wh = num r := h.2.1.2.2.2.2.2.2 r hr
theorem QOk.mb {s md wt num acc : Nat → Int} {n ck st wh rg : Int} (h : QOk s n ck st wh rg md wt num acc) : MB n ck wh rg md wt num := h.2.1.1
theorem QOk.dvd {s md wt num acc : Nat → Int} {n ck st wh rg : Int} (h : QOk s n ck st wh rg md wt num acc) {k : Nat} (hk : (k : Int) < n) : md k ∣ wh := by
  rw [← h.wh]
  exact PN_dvd _ (by omega)
theorem QOk.row {s md wt num acc : Nat → Int} {n ck st wh rg : Int} (h : QOk s n ck st wh rg md wt num acc) {rs : Nat → Int} {r : Int} (h0 : 0 ≤ r) (h8 : r < 8) : RowIs s rs r n md (num r.toNat) := h.1.row h0 h8
theorem MOk_put {n ck wh rg : Int} {md wt num : Nat → Int} {r : Nat} {x : Int} (h : MOk n ck wh rg md wt num) : MOk n ck wh rg md wt (upI num r (nin x wh)) := by
  obtain ⟨h1, h2, h3, h4, h5, h6, h7⟩ := h
  refine ⟨MB_put h1, h2, h3, h4, h5, h6, fun j hj => ?_⟩
  unfold upI
  split
  · exact nin_nin x wh
  · exact h7 j hj
theorem RR_ct {s md num acc : Nat → Int} {n ck st a : Int} (h0 : 0 ≤ a) (h8 : a < 8) (h : RR s n ck st md num acc) : RR (ctS s a) n ck st md num (bk acc a.toNat) := by
  obtain ⟨⟨h1, h2, h3⟩, h4, h5, h6⟩ := h
  refine ⟨⟨by rw [ctS_n h0 (by omega)]; exact h1, by rw [ctS_n h0 (by omega)]; exact h2, by rw [ctS_n h0 (by omega)]; exact h3⟩, fun j hj => ?_, fun k hk => ?_, fun r k hr hk => ?_⟩
  · unfold ctS bk upI
    by_cases e : j = a.toNat
    · rw [if_pos (by omega), if_pos e, show (3 + a).toNat = 3 + a.toNat by omega, h4 _ (by omega)]
    · rw [if_neg (by omega), if_neg e]
      exact h4 j hj
  · rw [ctS_n h0 (by omega)]
    exact h5 k hk
  · rw [ctS_n h0 (by omega)]
    exact h6 r k hr hk
theorem RR_put {s rs s' rs' md num acc : Nat → Int} {n ck st wh x r : Int} (hn : n ≤ 6) (h0 : 0 ≤ r) (h8 : r < 8) (hd : ∀ k : Nat, (k : Int) < n → md k ∣ wh) (hs : SameR s rs s' rs' r) (hr : RowIs s' rs' r n md x) (h : RR s n ck st md num acc) : RR s' n ck st md (upI num r.toNat (nin x wh)) acc := by
  obtain ⟨⟨h1, h2, h3⟩, h4, h5, h6⟩ := h
  refine ⟨⟨by rw [hs.1 0 (by omega)]; exact h1, by rw [hs.1 1 (by omega)]; exact h2, by rw [hs.1 2 (by omega)]; exact h3⟩, fun j hj => by rw [hs.1 _ (by omega)]; exact h4 j hj, fun k hk => by rw [hs.1 _ (by omega)]; exact h5 k hk, fun q k hq hk => ?_⟩
  by_cases e : q = r.toNat
  · subst e
    rw [upI_s, nin_mod (hd k hk), ← hr k hk]
    unfold rd
    rw [if_pos h8, show (20 + 6 * r + (k : Int)).toNat = 20 + 6 * r.toNat + k by omega]
  · rw [upI_n e, ← h6 q k hq hk]
    have := hs.2.1 q k (by omega) (by omega) (by omega) (by omega)
    unfold rd at this
    rw [if_pos (by omega), if_pos (by omega), show (20 + 6 * (q : Int) + (k : Int)).toNat = 20 + 6 * q + k by omega] at this
    exact this
theorem RR_fn {s md num acc : Nat → Int} {n ck st rg x : Int} (h : RR s n ck st md num acc) : RR (fnS rg x s) n ck st md num (finA rg x acc) := by
  unfold fnS finA
  split
  · exact RR_ct (by omega) (by omega) h
  · exact RR_ct (a := 6) (by omega) (by omega) (RR_ct (a := 0) (by omega) (by omega) h)
/-! sums over a row -/
theorem cQ_numberOf {d mc ms : Nat} {t0 pm ik il ec eo fr tt tk vl tn sts ops opn tp ip ol : Int} {s dr kp ps rs stm op wi pu nb ou : Nat → Int} {f : Nat → Int32} {n ck st wh rg : Int} {md wt num acc : Nat → Int} {K : Option Value → PW → Prop} {KX : String → PW → Prop} {r : Int} (hq : QOk s n ck st wh rg md wt num acc) (h0 : 0 ≤ r) (h8 : r < 8) (h : K (some (.long (lI (num r.toNat)))) (mmW t0 s dr kp ps pm ik rs f il ec eo fr tt tk vl tn stm sts op wi ops opn tp pu ip nb ou ol)) : WQ M_Mm_numberOf (d + 3) mc ms [.ref 0, .int (iI r)] (mmW t0 s dr kp ps pm ik rs f il ec eo fr tt tk vl tn stm sts op wi ops opn tp pu ip nb ou ol) K KX := by
  refine c_Mm_numberOf hq.rb hq.rm hq.cop h0 (by omega) (hq.row h0 h8) ?_
  rw [hq.wh, hq.nin (by omega)]
  exact h
theorem cQ_valueOf {d mc ms : Nat} {t0 pm ik il ec eo fr tt tk vl tn sts ops opn tp ip ol : Int} {s dr kp ps rs stm op wi pu nb ou : Nat → Int} {f : Nat → Int32} {n ck st wh rg : Int} {md wt num acc : Nat → Int} {K : Option Value → PW → Prop} {KX : String → PW → Prop} {r : Int} (hq : QOk s n ck st wh rg md wt num acc) (h0 : 0 ≤ r) (h8 : r < 8) (h : K (some (.long (lI (num r.toNat % wh)))) (mmW t0 s dr kp ps pm ik rs f il ec eo fr tt tk vl tn stm sts op wi ops opn tp pu ip nb ou ol)) : WQ M_Mm_valueOf (d + 1) mc ms [.ref 0, .int (iI r)] (mmW t0 s dr kp ps pm ik rs f il ec eo fr tt tk vl tn stm sts op wi ops opn tp pu ip nb ou ol) K KX := by
  refine c_Mm_valueOf hq.rb hq.rm hq.cop h0 (by omega) (hq.row h0 h8) ?_
  rw [hq.wh]
  exact h
theorem cQ_soundNow {d mc ms : Nat} {t0 pm ik il ec eo fr tt tk vl tn sts ops opn tp ip ol : Int} {s dr kp ps rs stm op wi pu nb ou : Nat → Int} {f : Nat → Int32} {n ck st wh rg : Int} {md wt num acc : Nat → Int} {K : Option Value → PW → Prop} {KX : String → PW → Prop} {r : Int} (hq : QOk s n ck st wh rg md wt num acc) (h0 : 0 ≤ r) (h8 : r < 8) (t9 : fitP rg (num r.toNat) → K (some (.int (iI 1))) (mmW t0 s dr kp ps pm ik rs f il ec eo fr tt tk vl tn stm sts op wi ops opn tp pu ip nb ou ol)) (f9 : ¬ fitP rg (num r.toNat) → K (some (.int (iI 0))) (mmW t0 s dr kp ps pm ik rs f il ec eo fr tt tk vl tn stm sts op wi ops opn tp pu ip nb ou ol)) : WQ M_Mm_soundNow (d + 4) mc ms [.ref 0, .int (iI r)] (mmW t0 s dr kp ps pm ik rs f il ec eo fr tt tk vl tn stm sts op wi ops opn tp pu ip nb ou ol) K KX := by
  refine c_Mm_soundNow hq.rb hq.rm hq.cop h0 (by omega) (hq.row h0 h8) ?_ ?_
  · rw [hq.wh, hq.rg, hq.nin (by omega)]
    exact t9
  · rw [hq.wh, hq.rg, hq.nin (by omega)]
    exact f9
theorem cQ_restOf {d mc ms : Nat} {t0 pm ik il ec eo fr tt tk vl tn sts ops opn tp ip ol : Int} {s dr kp ps rs stm op wi pu nb ou : Nat → Int} {f : Nat → Int32} {n ck st wh rg : Int} {md wt num acc : Nat → Int} {K : Option Value → PW → Prop} {KX : String → PW → Prop} {r k : Int} (hq : QOk s n ck st wh rg md wt num acc) (h0 : 0 ≤ r) (h8 : r < 8) (k0 : 0 ≤ k) (kn : k < n) (h : K (some (.int (iI (num r.toNat % md k.toNat)))) (mmW t0 s dr kp ps pm ik rs f il ec eo fr tt tk vl tn stm sts op wi ops opn tp pu ip nb ou ol)) : WQ M_Mm_restOf d mc ms [.ref 0, .int (iI r), .int (iI k)] (mmW t0 s dr kp ps pm ik rs f il ec eo fr tt tk vl tn stm sts op wi ops opn tp pu ip nb ou ol) K KX := by
  have h6 := hq.rm.1
  refine c_Mm_restOf h0 (by omega) k0 (by omega) ?_
  have := hq.row (rs := rs) h0 h8 k.toNat (by omega)
  rw [show ((k.toNat : Nat) : Int) = k by omega] at this
  rw [this]
  exact h
/-! weights, parts -/
theorem PN_others {md : Nat → Int} {k : Nat} {n : Nat} (hk : k < n) (hm : ∀ j, j < n → 1 ≤ md j) (hc : ∀ i j, i < j → j < n → Int.gcd (md i) (md j) = 1) : Int.gcd (PN md n / md k) (md k) = 1 := by
  have key : ∀ n, k < n → (∀ j, j < n → 1 ≤ md j) → (∀ i j, i < j → j < n → Int.gcd (md i) (md j) = 1) → Int.gcd (PN md n / md k) (md k) = 1 := by
    intro n
    induction n with
    | zero => intro h; omega
    | succ n ih =>
      intro h hm hc
      have hk0 := hm k (by omega)
      by_cases e : k = n
      · subst e
        show Int.gcd (PN md k * md k / md k) (md k) = 1
        rw [Int.mul_ediv_cancel _ (by omega)]
        exact cop_PN k (fun j hj => hc j k hj (by omega))
      · have h1 := ih (by omega) (fun j hj => hm j (by omega)) (fun i j a b => hc i j a (by omega))
        obtain ⟨c, hcc⟩ := PN_dvd (md := md) (k := k) n (by omega)
        have e1 : PN md n / md k = c := by
          rw [hcc]
          exact Int.mul_ediv_cancel_left _ (by omega)
        have e2 : PN md n * md n / md k = c * md n := by
          rw [hcc, Int.mul_assoc]
          exact Int.mul_ediv_cancel_left _ (by omega)
        show Int.gcd (PN md n * md n / md k) (md k) = 1
        rw [e2]
        rw [e1] at h1
        have h2 : Int.gcd (md n) (md k) = 1 := by
          rw [Int.gcd_comm]
          exact hc k n (by omega) (by omega)
        unfold Int.gcd at *
        rw [Int.natAbs_mul]
        exact Nat.Coprime.mul_left h1 h2
  exact key n hk hm hc
theorem QOk.oth {s md wt num acc : Nat → Int} {n ck st wh rg : Int} (h : QOk s n ck st wh rg md wt num acc) {k : Nat} (hk : (k : Int) < n) : Int.gcd (wh / md k) (md k) = 1 ∧ wh / md k * md k = wh ∧ 1 ≤ wh / md k := by
  have hm := h.rm
  obtain ⟨c, hc⟩ := h.dvd hk
  have hk2 := hm.2 k hk
  have hw := h.mb.1
  have e1 : wh / md k = c := by
    rw [hc]
    exact Int.mul_ediv_cancel_left _ (by omega)
  have e2 : wh / md k * md k = wh := by
    rw [e1, Int.mul_comm]
    exact hc.symm
  refine ⟨?_, e2, ?_⟩
  · rw [← h.wh]
    exact PN_others (by omega) (fun j hj => by have := hm.2 j (by omega); omega) (fun i j a b => h.cop i j a (by omega))
  · rcases Int.lt_trichotomy (wh / md k) 0 with h9 | h9 | h9
    · have := Int.mul_le_mul_of_nonneg_right (show wh / md k ≤ -1 by omega) (show 0 ≤ md k by omega)
      omega
    · rw [h9] at e2
      omega
    · omega
/-- the weight's other factor is an inverse indeed -/
theorem QOk.wt {s md wt num acc : Nat → Int} {n ck st wh rg : Int} (h : QOk s n ck st wh rg md wt num acc) {k : Nat} (hk : (k : Int) < n) : ∃ r, 1 ≤ r ∧ r < md k ∧ wh / md k * r % md k = 1 ∧ (∀ j, 1 ≤ j → j < r → wh / md k * j % md k ≠ 1) ∧ wt k = wh / md k * r := by
  obtain ⟨r, hr, e⟩ := h.2.1.2.2.2.2.2.1 k hk
  have hk2 := h.rm.2 k hk
  obtain ⟨h1, h2, h3⟩ := h.oth hk
  rcases hr with ⟨a, b, c, d⟩ | ⟨a, b⟩
  · exact ⟨r, a, b, c, d, e⟩
  · obtain ⟨r2, c1, c2, c3⟩ := inv_ex (a := wh / md k) (m := md k) (by omega) (by omega) (by omega) h1
    exact absurd c3 (b r2 c1 c2)
/-- a part, by the least factor -/
theorem part_eq {o m x i : Int} (h : o * i % m = 1) : o * (x % m * i % m) % m = x % m := by
  have e1 : o * (x % m * i % m) % m = o * (x % m * i) % m := by
    rw [Int.mul_emod, Int.emod_emod, ← Int.mul_emod]
  have e2 : o * (x % m * i) = o * i * (x % m) := by rw [Int.mul_comm (x % m) i, Int.mul_assoc]
  rw [e1, e2, Int.mul_emod, h, Int.one_mul, Int.emod_emod, Int.emod_emod]
theorem part_ne {o m t u : Int} (hg : Int.gcd o m = 1) (h0 : 0 ≤ t) (h1 : t < u) (h2 : u < m) : o * t % m ≠ o * u % m := by
  intro h
  have h3 := mod_eq_dvd h.symm
  rw [← Int.mul_sub] at h3
  have := dvd_lt (cop_dvd hg h3) (by omega) (by omega)
  omega
theorem ptF_eq {wh m w o x i : Int} (hm : 0 < m) (ho : 0 < o) (e : o * m = wh) (hw : w = o * i) : x % m * w % wh = o * (x % m * i % m) := by
  rw [hw, ← e, show x % m * (o * i) = o * (x % m * i) by rw [Int.mul_left_comm], Int.mul_emod_mul_of_pos _ _ ho]
theorem c_Mm_partOf_in {d mc ms : Nat} {t0 pm ik il ec eo fr tt tk vl tn sts ops opn tp ip ol : Int} {s dr kp ps rs stm op wi pu nb ou : Nat → Int} {f : Nat → Int32} {n ck st wh rg : Int} {md wt num acc : Nat → Int} {K : Option Value → PW → Prop} {KX : String → PW → Prop} {r k : Int} (hq : QOk s n ck st wh rg md wt num acc) (h0 : 0 ≤ r) (h8 : r < 8) (k0 : 0 ≤ k) (kn : k < n) (h : K (some (.long (lI (ptF wh md wt (num r.toNat) k.toNat)))) (mmW t0 s dr kp ps pm ik rs f il ec eo fr tt tk vl tn stm sts op wi ops opn tp pu ip nb ou ol)) {i : Int} (hi : wh / md k.toNat * i % md k.toNat = 1) (hwt : wt k.toNat = wh / md k.toNat * i) : ∀ (q : Nat) (t : Int), t + q = num r.toNat % md k.toNat * i % md k.toNat → 0 ≤ t →
    GO M_Mm_partOf (d + 3) mc ms 15 [some (.ref 0), some (.int (iI r)), some (.int (iI k)), some (.long (lI (wh / md k.toNat))), none, some (.long (lI (wh / md k.toNat * t)))] [] (mmW t0 s dr kp ps pm ik rs f il ec eo fr tt tk vl tn stm sts op wi ops opn tp pu ip nb ou ol) K KX := by
  have hk2 := hq.rm.2 k.toNat (by omega)
  obtain ⟨g1, g2, g3⟩ := hq.oth (k := k.toNat) (by omega)
  have hw := hq.mb.1
  have h6 := hq.rm.1
  have e1 := Int.emod_nonneg (num r.toNat % md k.toNat * i) (b := md k.toNat) (by omega)
  have e2 := Int.emod_lt_of_pos (num r.toNat % md k.toNat * i) (show 0 < md k.toNat by omega)
  have e3 := Int.emod_nonneg (num r.toNat) (b := md k.toNat) (by omega)
  have e4 := Int.emod_lt_of_pos (num r.toNat) (show 0 < md k.toNat by omega)
  have ep := part_eq (x := num r.toNat) hi
  have ef : ptF wh md wt (num r.toNat) k.toNat = wh / md k.toNat * (num r.toNat % md k.toNat * i % md k.toNat) := ptF_eq (by omega) (by omega) g2 hwt
  have hb1 : wh / md k.toNat ≤ 1000000000 := Int.le_trans (Int.ediv_le_self _ (by omega)) (by omega)
  intro q
  induction q with
  | zero =>
    intro t ht t0
    have et : t = num r.toNat % md k.toNat * i % md k.toNat := by omega
    have b1 : wh / md k.toNat * t ≤ 1000000000 * 97 := Int.mul_le_mul hb1 (by omega) t0 (by omega)
    have b2 : 0 ≤ wh / md k.toNat * t := Int.mul_nonneg (by omega) t0
    have e5 : wh / md k.toNat * t % md k.toNat = num r.toNat % md k.toNat := by rw [et]; exact ep
    rw [ef, ← et] at h
    refine run k_Mm_partOf [15] 900 ?_
    (repeat ((conv => whnf); simp (disch := omega) only [Int.cast_ofNat_Int, Int.reduceToNat, iI_tt, Int.toNat_natCast, iI_add, iI_sub, iI_mul, iI_neg, lI_add, lI_sub, lI_mul, lI_neg, i2l_, l2i_, iI_lt, iI_le, iI_eq, lI_lt, lI_le, lI_eq, iI_lt0, iI_le0, iI_0lt, iI_0le, iI_eq0, iI_eq1, lI_lt0, lI_le0, lI_0lt, lI_0le, lI_eq0, ix_cl, ix_iff, upd_iI, updL_lI, lI_divF, lI_remF, iI_divF, iI_remF, em_eq, Int.not_lt, Int.not_le, true_implies, false_implies, and_true, true_and, not_true_eq_false, not_false_eq_true, true_or, or_true, or_false, false_or])); (conv => whnf)
    refine c_Mm_mod hq.rb k0 kn (by omega) ?_
    (repeat ((conv => whnf); simp (disch := omega) only [Int.cast_ofNat_Int, Int.reduceToNat, iI_tt, Int.toNat_natCast, iI_add, iI_sub, iI_mul, iI_neg, lI_add, lI_sub, lI_mul, lI_neg, i2l_, l2i_, iI_lt, iI_le, iI_eq, lI_lt, lI_le, lI_eq, iI_lt0, iI_le0, iI_0lt, iI_0le, iI_eq0, iI_eq1, lI_lt0, lI_le0, lI_0lt, lI_0le, lI_eq0, ix_cl, ix_iff, upd_iI, updL_lI, lI_divF, lI_remF, iI_divF, iI_remF, em_eq, Int.not_lt, Int.not_le, true_implies, false_implies, and_true, true_and, not_true_eq_false, not_false_eq_true, true_or, or_true, or_false, false_or])); (conv => whnf)
    (repeat ((conv => whnf); simp (disch := omega) only [Int.cast_ofNat_Int, Int.reduceToNat, iI_tt, Int.toNat_natCast, iI_add, iI_sub, iI_mul, iI_neg, lI_add, lI_sub, lI_mul, lI_neg, i2l_, l2i_, iI_lt, iI_le, iI_eq, lI_lt, lI_le, lI_eq, iI_lt0, iI_le0, iI_0lt, iI_0le, iI_eq0, iI_eq1, lI_lt0, lI_le0, lI_0lt, lI_0le, lI_eq0, ix_cl, ix_iff, upd_iI, updL_lI, lI_divF, lI_remF, iI_divF, iI_remF, em_eq, Int.not_lt, Int.not_le, true_implies, false_implies, and_true, true_and, not_true_eq_false, not_false_eq_true, true_or, or_true, or_false, false_or])); (conv => whnf)
    repeat' ((first | (refine ⟨fun _ => ?_, fun hb => absurd hb (by omega)⟩) | (refine ⟨fun hb => absurd hb (by omega), fun _ => ?_⟩) | (refine ⟨by omega, ?_⟩) | (refine ⟨⟨by omega, (by (conv => whnf); exact trivial)⟩, ?_⟩) | (refine ⟨(Nat.le_of_ble_eq_true rfl), bWp_ok _ (by (conv => whnf); exact trivial), ?_⟩) | (refine ⟨fun _ => ?_, fun _ => ?_⟩) | fail) <;> ((repeat ((conv => whnf); simp (disch := omega) only [Int.cast_ofNat_Int, Int.reduceToNat, iI_tt, Int.toNat_natCast, iI_add, iI_sub, iI_mul, iI_neg, lI_add, lI_sub, lI_mul, lI_neg, i2l_, l2i_, iI_lt, iI_le, iI_eq, lI_lt, lI_le, lI_eq, iI_lt0, iI_le0, iI_0lt, iI_0le, iI_eq0, iI_eq1, lI_lt0, lI_le0, lI_0lt, lI_0le, lI_eq0, ix_cl, ix_iff, upd_iI, updL_lI, lI_divF, lI_remF, iI_divF, iI_remF, em_eq, Int.not_lt, Int.not_le, true_implies, false_implies, and_true, true_and, not_true_eq_false, not_false_eq_true, true_or, or_true, or_false, false_or])); (conv => whnf)))
    refine cQ_restOf hq h0 h8 k0 kn ?_
    (repeat ((conv => whnf); simp (disch := omega) only [Int.cast_ofNat_Int, Int.reduceToNat, iI_tt, Int.toNat_natCast, iI_add, iI_sub, iI_mul, iI_neg, lI_add, lI_sub, lI_mul, lI_neg, i2l_, l2i_, iI_lt, iI_le, iI_eq, lI_lt, lI_le, lI_eq, iI_lt0, iI_le0, iI_0lt, iI_0le, iI_eq0, iI_eq1, lI_lt0, lI_le0, lI_0lt, lI_0le, lI_eq0, ix_cl, ix_iff, upd_iI, updL_lI, lI_divF, lI_remF, iI_divF, iI_remF, em_eq, Int.not_lt, Int.not_le, true_implies, false_implies, and_true, true_and, not_true_eq_false, not_false_eq_true, true_or, or_true, or_false, false_or])); (conv => whnf)
    rw [e5]
    (repeat ((conv => whnf); simp (disch := omega) only [Int.cast_ofNat_Int, Int.reduceToNat, iI_tt, Int.toNat_natCast, iI_add, iI_sub, iI_mul, iI_neg, lI_add, lI_sub, lI_mul, lI_neg, i2l_, l2i_, iI_lt, iI_le, iI_eq, lI_lt, lI_le, lI_eq, iI_lt0, iI_le0, iI_0lt, iI_0le, iI_eq0, iI_eq1, lI_lt0, lI_le0, lI_0lt, lI_0le, lI_eq0, ix_cl, ix_iff, upd_iI, updL_lI, lI_divF, lI_remF, iI_divF, iI_remF, em_eq, Int.not_lt, Int.not_le, true_implies, false_implies, and_true, true_and, not_true_eq_false, not_false_eq_true, true_or, or_true, or_false, false_or])); (conv => whnf)
    repeat' ((first | (refine ⟨fun _ => ?_, fun hb => absurd hb (by omega)⟩) | (refine ⟨fun hb => absurd hb (by omega), fun _ => ?_⟩) | (refine ⟨by omega, ?_⟩) | (refine ⟨⟨by omega, (by (conv => whnf); exact trivial)⟩, ?_⟩) | (refine ⟨(Nat.le_of_ble_eq_true rfl), bWp_ok _ (by (conv => whnf); exact trivial), ?_⟩) | (refine ⟨fun _ => ?_, fun _ => ?_⟩) | fail) <;> ((repeat ((conv => whnf); simp (disch := omega) only [Int.cast_ofNat_Int, Int.reduceToNat, iI_tt, Int.toNat_natCast, iI_add, iI_sub, iI_mul, iI_neg, lI_add, lI_sub, lI_mul, lI_neg, i2l_, l2i_, iI_lt, iI_le, iI_eq, lI_lt, lI_le, lI_eq, iI_lt0, iI_le0, iI_0lt, iI_0le, iI_eq0, iI_eq1, lI_lt0, lI_le0, lI_0lt, lI_0le, lI_eq0, ix_cl, ix_iff, upd_iI, updL_lI, lI_divF, lI_remF, iI_divF, iI_remF, em_eq, Int.not_lt, Int.not_le, true_implies, false_implies, and_true, true_and, not_true_eq_false, not_false_eq_true, true_or, or_true, or_false, false_or])); (conv => whnf)))
    exact h
  | succ q ih =>
    intro t ht t0
    have b1 : wh / md k.toNat * t ≤ 1000000000 * 97 := Int.mul_le_mul hb1 (by omega) t0 (by omega)
    have b2 : 0 ≤ wh / md k.toNat * t := Int.mul_nonneg (by omega) t0
    have e5 := part_ne (t := t) (u := num r.toNat % md k.toNat * i % md k.toNat) g1 t0 (by omega) (by omega)
    rw [ep] at e5
    have e6 := Int.emod_nonneg (wh / md k.toNat * t) (b := md k.toNat) (by omega)
    have e7 := Int.emod_lt_of_pos (wh / md k.toNat * t) (show 0 < md k.toNat by omega)
    have e8 : wh / md k.toNat * t + wh / md k.toNat = wh / md k.toNat * (t + 1) := by
      rw [Int.mul_add]
      omega
    refine run k_Mm_partOf [15] 900 ?_
    (repeat ((conv => whnf); simp (disch := omega) only [Int.cast_ofNat_Int, Int.reduceToNat, iI_tt, Int.toNat_natCast, iI_add, iI_sub, iI_mul, iI_neg, lI_add, lI_sub, lI_mul, lI_neg, i2l_, l2i_, iI_lt, iI_le, iI_eq, lI_lt, lI_le, lI_eq, iI_lt0, iI_le0, iI_0lt, iI_0le, iI_eq0, iI_eq1, lI_lt0, lI_le0, lI_0lt, lI_0le, lI_eq0, ix_cl, ix_iff, upd_iI, updL_lI, lI_divF, lI_remF, iI_divF, iI_remF, em_eq, Int.not_lt, Int.not_le, true_implies, false_implies, and_true, true_and, not_true_eq_false, not_false_eq_true, true_or, or_true, or_false, false_or])); (conv => whnf)
    refine c_Mm_mod hq.rb k0 kn (by omega) ?_
    (repeat ((conv => whnf); simp (disch := omega) only [Int.cast_ofNat_Int, Int.reduceToNat, iI_tt, Int.toNat_natCast, iI_add, iI_sub, iI_mul, iI_neg, lI_add, lI_sub, lI_mul, lI_neg, i2l_, l2i_, iI_lt, iI_le, iI_eq, lI_lt, lI_le, lI_eq, iI_lt0, iI_le0, iI_0lt, iI_0le, iI_eq0, iI_eq1, lI_lt0, lI_le0, lI_0lt, lI_0le, lI_eq0, ix_cl, ix_iff, upd_iI, updL_lI, lI_divF, lI_remF, iI_divF, iI_remF, em_eq, Int.not_lt, Int.not_le, true_implies, false_implies, and_true, true_and, not_true_eq_false, not_false_eq_true, true_or, or_true, or_false, false_or])); (conv => whnf)
    (repeat ((conv => whnf); simp (disch := omega) only [Int.cast_ofNat_Int, Int.reduceToNat, iI_tt, Int.toNat_natCast, iI_add, iI_sub, iI_mul, iI_neg, lI_add, lI_sub, lI_mul, lI_neg, i2l_, l2i_, iI_lt, iI_le, iI_eq, lI_lt, lI_le, lI_eq, iI_lt0, iI_le0, iI_0lt, iI_0le, iI_eq0, iI_eq1, lI_lt0, lI_le0, lI_0lt, lI_0le, lI_eq0, ix_cl, ix_iff, upd_iI, updL_lI, lI_divF, lI_remF, iI_divF, iI_remF, em_eq, Int.not_lt, Int.not_le, true_implies, false_implies, and_true, true_and, not_true_eq_false, not_false_eq_true, true_or, or_true, or_false, false_or])); (conv => whnf)
    repeat' ((first | (refine ⟨fun _ => ?_, fun hb => absurd hb (by omega)⟩) | (refine ⟨fun hb => absurd hb (by omega), fun _ => ?_⟩) | (refine ⟨by omega, ?_⟩) | (refine ⟨⟨by omega, (by (conv => whnf); exact trivial)⟩, ?_⟩) | (refine ⟨(Nat.le_of_ble_eq_true rfl), bWp_ok _ (by (conv => whnf); exact trivial), ?_⟩) | (refine ⟨fun _ => ?_, fun _ => ?_⟩) | fail) <;> ((repeat ((conv => whnf); simp (disch := omega) only [Int.cast_ofNat_Int, Int.reduceToNat, iI_tt, Int.toNat_natCast, iI_add, iI_sub, iI_mul, iI_neg, lI_add, lI_sub, lI_mul, lI_neg, i2l_, l2i_, iI_lt, iI_le, iI_eq, lI_lt, lI_le, lI_eq, iI_lt0, iI_le0, iI_0lt, iI_0le, iI_eq0, iI_eq1, lI_lt0, lI_le0, lI_0lt, lI_0le, lI_eq0, ix_cl, ix_iff, upd_iI, updL_lI, lI_divF, lI_remF, iI_divF, iI_remF, em_eq, Int.not_lt, Int.not_le, true_implies, false_implies, and_true, true_and, not_true_eq_false, not_false_eq_true, true_or, or_true, or_false, false_or])); (conv => whnf)))
    refine cQ_restOf hq h0 h8 k0 kn ?_
    (repeat ((conv => whnf); simp (disch := omega) only [Int.cast_ofNat_Int, Int.reduceToNat, iI_tt, Int.toNat_natCast, iI_add, iI_sub, iI_mul, iI_neg, lI_add, lI_sub, lI_mul, lI_neg, i2l_, l2i_, iI_lt, iI_le, iI_eq, lI_lt, lI_le, lI_eq, iI_lt0, iI_le0, iI_0lt, iI_0le, iI_eq0, iI_eq1, lI_lt0, lI_le0, lI_0lt, lI_0le, lI_eq0, ix_cl, ix_iff, upd_iI, updL_lI, lI_divF, lI_remF, iI_divF, iI_remF, em_eq, Int.not_lt, Int.not_le, true_implies, false_implies, and_true, true_and, not_true_eq_false, not_false_eq_true, true_or, or_true, or_false, false_or])); (conv => whnf)
    (repeat ((conv => whnf); simp (disch := omega) only [Int.cast_ofNat_Int, Int.reduceToNat, iI_tt, Int.toNat_natCast, iI_add, iI_sub, iI_mul, iI_neg, lI_add, lI_sub, lI_mul, lI_neg, i2l_, l2i_, iI_lt, iI_le, iI_eq, lI_lt, lI_le, lI_eq, iI_lt0, iI_le0, iI_0lt, iI_0le, iI_eq0, iI_eq1, lI_lt0, lI_le0, lI_0lt, lI_0le, lI_eq0, ix_cl, ix_iff, upd_iI, updL_lI, lI_divF, lI_remF, iI_divF, iI_remF, em_eq, Int.not_lt, Int.not_le, true_implies, false_implies, and_true, true_and, not_true_eq_false, not_false_eq_true, true_or, or_true, or_false, false_or])); (conv => whnf)
    repeat' ((first | (refine ⟨fun _ => ?_, fun hb => absurd hb (by omega)⟩) | (refine ⟨fun hb => absurd hb (by omega), fun _ => ?_⟩) | (refine ⟨by omega, ?_⟩) | (refine ⟨⟨by omega, (by (conv => whnf); exact trivial)⟩, ?_⟩) | (refine ⟨(Nat.le_of_ble_eq_true rfl), bWp_ok _ (by (conv => whnf); exact trivial), ?_⟩) | (refine ⟨fun _ => ?_, fun _ => ?_⟩) | fail) <;> ((repeat ((conv => whnf); simp (disch := omega) only [Int.cast_ofNat_Int, Int.reduceToNat, iI_tt, Int.toNat_natCast, iI_add, iI_sub, iI_mul, iI_neg, lI_add, lI_sub, lI_mul, lI_neg, i2l_, l2i_, iI_lt, iI_le, iI_eq, lI_lt, lI_le, lI_eq, iI_lt0, iI_le0, iI_0lt, iI_0le, iI_eq0, iI_eq1, lI_lt0, lI_le0, lI_0lt, lI_0le, lI_eq0, ix_cl, ix_iff, upd_iI, updL_lI, lI_divF, lI_remF, iI_divF, iI_remF, em_eq, Int.not_lt, Int.not_le, true_implies, false_implies, and_true, true_and, not_true_eq_false, not_false_eq_true, true_or, or_true, or_false, false_or])); (conv => whnf)))
    rw [e8]
    exact ih (t + 1) (by omega) (by omega)
theorem c_Mm_partOf {d mc ms : Nat} {t0 pm ik il ec eo fr tt tk vl tn sts ops opn tp ip ol : Int} {s dr kp ps rs stm op wi pu nb ou : Nat → Int} {f : Nat → Int32} {n ck st wh rg : Int} {md wt num acc : Nat → Int} {K : Option Value → PW → Prop} {KX : String → PW → Prop} {r k : Int} (hq : QOk s n ck st wh rg md wt num acc) (h0 : 0 ≤ r) (h8 : r < 8) (k0 : 0 ≤ k) (kn : k < n) (h : K (some (.long (lI (ptF wh md wt (num r.toNat) k.toNat)))) (mmW t0 s dr kp ps pm ik rs f il ec eo fr tt tk vl tn stm sts op wi ops opn tp pu ip nb ou ol)) : WQ M_Mm_partOf (d + 3) mc ms [.ref 0, .int (iI r), .int (iI k)] (mmW t0 s dr kp ps pm ik rs f il ec eo fr tt tk vl tn stm sts op wi ops opn tp pu ip nb ou ol) K KX := by
  have hk2 := hq.rm.2 k.toNat (by omega)
  have hw := hq.mb.1
  have h6 := hq.rm.1
  obtain ⟨i, i1, i2, i3, -, i5⟩ := hq.wt (k := k.toNat) (by omega)
  have e1 := Int.emod_nonneg (num r.toNat % md k.toNat * i) (b := md k.toNat) (by omega)
  have := c_Mm_partOf_in (d := d) (mc := mc) (ms := ms) (KX := KX) hq h0 h8 k0 kn h i3 i5 (num r.toNat % md k.toNat * i % md k.toNat).toNat 0 (by omega) (by omega)
  rw [Int.mul_zero] at this
  refine methC (pf_Mm rfl) (tz_Mm rfl) rfl ?_
  refine run k_Mm_partOf [15] 900 ?_
  (repeat ((conv => whnf); simp (disch := omega) only [Int.cast_ofNat_Int, Int.reduceToNat, iI_tt, Int.toNat_natCast, iI_add, iI_sub, iI_mul, iI_neg, lI_add, lI_sub, lI_mul, lI_neg, i2l_, l2i_, iI_lt, iI_le, iI_eq, lI_lt, lI_le, lI_eq, iI_lt0, iI_le0, iI_0lt, iI_0le, iI_eq0, iI_eq1, lI_lt0, lI_le0, lI_0lt, lI_0le, lI_eq0, ix_cl, ix_iff, upd_iI, updL_lI, lI_divF, lI_remF, iI_divF, iI_remF, em_eq, Int.not_lt, Int.not_le, true_implies, false_implies, and_true, true_and, not_true_eq_false, not_false_eq_true, true_or, or_true, or_false, false_or])); (conv => whnf)
  refine c_Mm_whole hq.rb hq.rm ?_
  (repeat ((conv => whnf); simp (disch := omega) only [Int.cast_ofNat_Int, Int.reduceToNat, iI_tt, Int.toNat_natCast, iI_add, iI_sub, iI_mul, iI_neg, lI_add, lI_sub, lI_mul, lI_neg, i2l_, l2i_, iI_lt, iI_le, iI_eq, lI_lt, lI_le, lI_eq, iI_lt0, iI_le0, iI_0lt, iI_0le, iI_eq0, iI_eq1, lI_lt0, lI_le0, lI_0lt, lI_0le, lI_eq0, ix_cl, ix_iff, upd_iI, updL_lI, lI_divF, lI_remF, iI_divF, iI_remF, em_eq, Int.not_lt, Int.not_le, true_implies, false_implies, and_true, true_and, not_true_eq_false, not_false_eq_true, true_or, or_true, or_false, false_or])); (conv => whnf)
  rw [hq.wh]
  (repeat ((conv => whnf); simp (disch := omega) only [Int.cast_ofNat_Int, Int.reduceToNat, iI_tt, Int.toNat_natCast, iI_add, iI_sub, iI_mul, iI_neg, lI_add, lI_sub, lI_mul, lI_neg, i2l_, l2i_, iI_lt, iI_le, iI_eq, lI_lt, lI_le, lI_eq, iI_lt0, iI_le0, iI_0lt, iI_0le, iI_eq0, iI_eq1, lI_lt0, lI_le0, lI_0lt, lI_0le, lI_eq0, ix_cl, ix_iff, upd_iI, updL_lI, lI_divF, lI_remF, iI_divF, iI_remF, em_eq, Int.not_lt, Int.not_le, true_implies, false_implies, and_true, true_and, not_true_eq_false, not_false_eq_true, true_or, or_true, or_false, false_or])); (conv => whnf)
  refine c_Mm_mod hq.rb k0 kn (by omega) ?_
  (repeat ((conv => whnf); simp (disch := omega) only [Int.cast_ofNat_Int, Int.reduceToNat, iI_tt, Int.toNat_natCast, iI_add, iI_sub, iI_mul, iI_neg, lI_add, lI_sub, lI_mul, lI_neg, i2l_, l2i_, iI_lt, iI_le, iI_eq, lI_lt, lI_le, lI_eq, iI_lt0, iI_le0, iI_0lt, iI_0le, iI_eq0, iI_eq1, lI_lt0, lI_le0, lI_0lt, lI_0le, lI_eq0, ix_cl, ix_iff, upd_iI, updL_lI, lI_divF, lI_remF, iI_divF, iI_remF, em_eq, Int.not_lt, Int.not_le, true_implies, false_implies, and_true, true_and, not_true_eq_false, not_false_eq_true, true_or, or_true, or_false, false_or])); (conv => whnf)
  (repeat ((conv => whnf); simp (disch := omega) only [Int.cast_ofNat_Int, Int.reduceToNat, iI_tt, Int.toNat_natCast, iI_add, iI_sub, iI_mul, iI_neg, lI_add, lI_sub, lI_mul, lI_neg, i2l_, l2i_, iI_lt, iI_le, iI_eq, lI_lt, lI_le, lI_eq, iI_lt0, iI_le0, iI_0lt, iI_0le, iI_eq0, iI_eq1, lI_lt0, lI_le0, lI_0lt, lI_0le, lI_eq0, ix_cl, ix_iff, upd_iI, updL_lI, lI_divF, lI_remF, iI_divF, iI_remF, em_eq, Int.not_lt, Int.not_le, true_implies, false_implies, and_true, true_and, not_true_eq_false, not_false_eq_true, true_or, or_true, or_false, false_or])); (conv => whnf)
  repeat' ((first | (refine ⟨fun _ => ?_, fun hb => absurd hb (by omega)⟩) | (refine ⟨fun hb => absurd hb (by omega), fun _ => ?_⟩) | (refine ⟨by omega, ?_⟩) | (refine ⟨⟨by omega, (by (conv => whnf); exact trivial)⟩, ?_⟩) | (refine ⟨(Nat.le_of_ble_eq_true rfl), bWp_ok _ (by (conv => whnf); exact trivial), ?_⟩) | (refine ⟨fun _ => ?_, fun _ => ?_⟩) | fail) <;> ((repeat ((conv => whnf); simp (disch := omega) only [Int.cast_ofNat_Int, Int.reduceToNat, iI_tt, Int.toNat_natCast, iI_add, iI_sub, iI_mul, iI_neg, lI_add, lI_sub, lI_mul, lI_neg, i2l_, l2i_, iI_lt, iI_le, iI_eq, lI_lt, lI_le, lI_eq, iI_lt0, iI_le0, iI_0lt, iI_0le, iI_eq0, iI_eq1, lI_lt0, lI_le0, lI_0lt, lI_0le, lI_eq0, ix_cl, ix_iff, upd_iI, updL_lI, lI_divF, lI_remF, iI_divF, iI_remF, em_eq, Int.not_lt, Int.not_le, true_implies, false_implies, and_true, true_and, not_true_eq_false, not_false_eq_true, true_or, or_true, or_false, false_or])); (conv => whnf)))
  exact this
theorem lq_parts {d mc ms : Nat} {t0 pm ik il ec eo fr tt tk vl tn sts ops opn tp ip ol : Int} {s dr kp ps rs stm op wi pu nb ou : Nat → Int} {f : Nat → Int32} {n ck st wh rg : Int} {md wt num acc : Nat → Int} {K : Option Value → PW → Prop} {KX : String → PW → Prop} {r : Int} (hq : QOk s n ck st wh rg md wt num acc) (h0 : 0 ≤ r) (h8 : r < 8) (h : K (some (.long (lI (smP (ptF wh md wt (num r.toNat)) n.toNat)))) (mmW t0 s dr kp ps pm ik rs f il ec eo fr tt tk vl tn stm sts op wi ops opn tp pu ip nb ou ol)) : ∀ (q : Nat) (i : Int), i + q = n → 0 ≤ i →
    GO M_Mm_partsOf (d + 4) mc ms 5 [some (.ref 0), some (.int (iI r)), some (.long (lI (smP (ptF wh md wt (num r.toNat)) i.toNat))), none, some (.int (iI i))] [] (mmW t0 s dr kp ps pm ik rs f il ec eo fr tt tk vl tn stm sts op wi ops opn tp pu ip nb ou ol) K KX := by
  have h6 := hq.rm.1
  intro q
  induction q with
  | zero =>
    intro i hi i0
    have e : i = n := by omega
    subst e
    refine run k_Mm_partsOf [] 900 ?_
    (repeat ((conv => whnf); simp (disch := omega) only [Int.cast_ofNat_Int, Int.reduceToNat, iI_tt, Int.toNat_natCast, iI_add, iI_sub, iI_mul, iI_neg, lI_add, lI_sub, lI_mul, lI_neg, i2l_, l2i_, iI_lt, iI_le, iI_eq, lI_lt, lI_le, lI_eq, iI_lt0, iI_le0, iI_0lt, iI_0le, iI_eq0, iI_eq1, lI_lt0, lI_le0, lI_0lt, lI_0le, lI_eq0, ix_cl, ix_iff, upd_iI, updL_lI, lI_divF, lI_remF, iI_divF, iI_remF, em_eq, Int.not_lt, Int.not_le, true_implies, false_implies, and_true, true_and, not_true_eq_false, not_false_eq_true, true_or, or_true, or_false, false_or])); (conv => whnf)
    refine c_Mm_many hq.rb ?_
    (repeat ((conv => whnf); simp (disch := omega) only [Int.cast_ofNat_Int, Int.reduceToNat, iI_tt, Int.toNat_natCast, iI_add, iI_sub, iI_mul, iI_neg, lI_add, lI_sub, lI_mul, lI_neg, i2l_, l2i_, iI_lt, iI_le, iI_eq, lI_lt, lI_le, lI_eq, iI_lt0, iI_le0, iI_0lt, iI_0le, iI_eq0, iI_eq1, lI_lt0, lI_le0, lI_0lt, lI_0le, lI_eq0, ix_cl, ix_iff, upd_iI, updL_lI, lI_divF, lI_remF, iI_divF, iI_remF, em_eq, Int.not_lt, Int.not_le, true_implies, false_implies, and_true, true_and, not_true_eq_false, not_false_eq_true, true_or, or_true, or_false, false_or])); (conv => whnf)
    (repeat ((conv => whnf); simp (disch := omega) only [Int.cast_ofNat_Int, Int.reduceToNat, iI_tt, Int.toNat_natCast, iI_add, iI_sub, iI_mul, iI_neg, lI_add, lI_sub, lI_mul, lI_neg, i2l_, l2i_, iI_lt, iI_le, iI_eq, lI_lt, lI_le, lI_eq, iI_lt0, iI_le0, iI_0lt, iI_0le, iI_eq0, iI_eq1, lI_lt0, lI_le0, lI_0lt, lI_0le, lI_eq0, ix_cl, ix_iff, upd_iI, updL_lI, lI_divF, lI_remF, iI_divF, iI_remF, em_eq, Int.not_lt, Int.not_le, true_implies, false_implies, and_true, true_and, not_true_eq_false, not_false_eq_true, true_or, or_true, or_false, false_or])); (conv => whnf)
    repeat' ((first | (refine ⟨fun _ => ?_, fun hb => absurd hb (by omega)⟩) | (refine ⟨fun hb => absurd hb (by omega), fun _ => ?_⟩) | (refine ⟨by omega, ?_⟩) | (refine ⟨⟨by omega, (by (conv => whnf); exact trivial)⟩, ?_⟩) | (refine ⟨(Nat.le_of_ble_eq_true rfl), bWp_ok _ (by (conv => whnf); exact trivial), ?_⟩) | (refine ⟨fun _ => ?_, fun _ => ?_⟩) | fail) <;> ((repeat ((conv => whnf); simp (disch := omega) only [Int.cast_ofNat_Int, Int.reduceToNat, iI_tt, Int.toNat_natCast, iI_add, iI_sub, iI_mul, iI_neg, lI_add, lI_sub, lI_mul, lI_neg, i2l_, l2i_, iI_lt, iI_le, iI_eq, lI_lt, lI_le, lI_eq, iI_lt0, iI_le0, iI_0lt, iI_0le, iI_eq0, iI_eq1, lI_lt0, lI_le0, lI_0lt, lI_0le, lI_eq0, ix_cl, ix_iff, upd_iI, updL_lI, lI_divF, lI_remF, iI_divF, iI_remF, em_eq, Int.not_lt, Int.not_le, true_implies, false_implies, and_true, true_and, not_true_eq_false, not_false_eq_true, true_or, or_true, or_false, false_or])); (conv => whnf)))
    exact h
  | succ q ih =>
    intro i hi i0
    refine run k_Mm_partsOf [5] 900 ?_
    (repeat ((conv => whnf); simp (disch := omega) only [Int.cast_ofNat_Int, Int.reduceToNat, iI_tt, Int.toNat_natCast, iI_add, iI_sub, iI_mul, iI_neg, lI_add, lI_sub, lI_mul, lI_neg, i2l_, l2i_, iI_lt, iI_le, iI_eq, lI_lt, lI_le, lI_eq, iI_lt0, iI_le0, iI_0lt, iI_0le, iI_eq0, iI_eq1, lI_lt0, lI_le0, lI_0lt, lI_0le, lI_eq0, ix_cl, ix_iff, upd_iI, updL_lI, lI_divF, lI_remF, iI_divF, iI_remF, em_eq, Int.not_lt, Int.not_le, true_implies, false_implies, and_true, true_and, not_true_eq_false, not_false_eq_true, true_or, or_true, or_false, false_or])); (conv => whnf)
    refine c_Mm_many hq.rb ?_
    (repeat ((conv => whnf); simp (disch := omega) only [Int.cast_ofNat_Int, Int.reduceToNat, iI_tt, Int.toNat_natCast, iI_add, iI_sub, iI_mul, iI_neg, lI_add, lI_sub, lI_mul, lI_neg, i2l_, l2i_, iI_lt, iI_le, iI_eq, lI_lt, lI_le, lI_eq, iI_lt0, iI_le0, iI_0lt, iI_0le, iI_eq0, iI_eq1, lI_lt0, lI_le0, lI_0lt, lI_0le, lI_eq0, ix_cl, ix_iff, upd_iI, updL_lI, lI_divF, lI_remF, iI_divF, iI_remF, em_eq, Int.not_lt, Int.not_le, true_implies, false_implies, and_true, true_and, not_true_eq_false, not_false_eq_true, true_or, or_true, or_false, false_or])); (conv => whnf)
    (repeat ((conv => whnf); simp (disch := omega) only [Int.cast_ofNat_Int, Int.reduceToNat, iI_tt, Int.toNat_natCast, iI_add, iI_sub, iI_mul, iI_neg, lI_add, lI_sub, lI_mul, lI_neg, i2l_, l2i_, iI_lt, iI_le, iI_eq, lI_lt, lI_le, lI_eq, iI_lt0, iI_le0, iI_0lt, iI_0le, iI_eq0, iI_eq1, lI_lt0, lI_le0, lI_0lt, lI_0le, lI_eq0, ix_cl, ix_iff, upd_iI, updL_lI, lI_divF, lI_remF, iI_divF, iI_remF, em_eq, Int.not_lt, Int.not_le, true_implies, false_implies, and_true, true_and, not_true_eq_false, not_false_eq_true, true_or, or_true, or_false, false_or])); (conv => whnf)
    repeat' ((first | (refine ⟨fun _ => ?_, fun hb => absurd hb (by omega)⟩) | (refine ⟨fun hb => absurd hb (by omega), fun _ => ?_⟩) | (refine ⟨by omega, ?_⟩) | (refine ⟨⟨by omega, (by (conv => whnf); exact trivial)⟩, ?_⟩) | (refine ⟨(Nat.le_of_ble_eq_true rfl), bWp_ok _ (by (conv => whnf); exact trivial), ?_⟩) | (refine ⟨fun _ => ?_, fun _ => ?_⟩) | fail) <;> ((repeat ((conv => whnf); simp (disch := omega) only [Int.cast_ofNat_Int, Int.reduceToNat, iI_tt, Int.toNat_natCast, iI_add, iI_sub, iI_mul, iI_neg, lI_add, lI_sub, lI_mul, lI_neg, i2l_, l2i_, iI_lt, iI_le, iI_eq, lI_lt, lI_le, lI_eq, iI_lt0, iI_le0, iI_0lt, iI_0le, iI_eq0, iI_eq1, lI_lt0, lI_le0, lI_0lt, lI_0le, lI_eq0, ix_cl, ix_iff, upd_iI, updL_lI, lI_divF, lI_remF, iI_divF, iI_remF, em_eq, Int.not_lt, Int.not_le, true_implies, false_implies, and_true, true_and, not_true_eq_false, not_false_eq_true, true_or, or_true, or_false, false_or])); (conv => whnf)))
    refine c_Mm_partOf hq h0 h8 i0 (by omega) ?_
    (repeat ((conv => whnf); simp (disch := omega) only [Int.cast_ofNat_Int, Int.reduceToNat, iI_tt, Int.toNat_natCast, iI_add, iI_sub, iI_mul, iI_neg, lI_add, lI_sub, lI_mul, lI_neg, i2l_, l2i_, iI_lt, iI_le, iI_eq, lI_lt, lI_le, lI_eq, iI_lt0, iI_le0, iI_0lt, iI_0le, iI_eq0, iI_eq1, lI_lt0, lI_le0, lI_0lt, lI_0le, lI_eq0, ix_cl, ix_iff, upd_iI, updL_lI, lI_divF, lI_remF, iI_divF, iI_remF, em_eq, Int.not_lt, Int.not_le, true_implies, false_implies, and_true, true_and, not_true_eq_false, not_false_eq_true, true_or, or_true, or_false, false_or])); (conv => whnf)
    rw [← smP_s i0]
    exact ih (i + 1) (by omega) (by omega)
theorem c_Mm_partsOf {d mc ms : Nat} {t0 pm ik il ec eo fr tt tk vl tn sts ops opn tp ip ol : Int} {s dr kp ps rs stm op wi pu nb ou : Nat → Int} {f : Nat → Int32} {n ck st wh rg : Int} {md wt num acc : Nat → Int} {K : Option Value → PW → Prop} {KX : String → PW → Prop} {r : Int} (hq : QOk s n ck st wh rg md wt num acc) (h0 : 0 ≤ r) (h8 : r < 8) (h : K (some (.long (lI (smP (ptF wh md wt (num r.toNat)) n.toNat)))) (mmW t0 s dr kp ps pm ik rs f il ec eo fr tt tk vl tn stm sts op wi ops opn tp pu ip nb ou ol)) : WQ M_Mm_partsOf (d + 4) mc ms [.ref 0, .int (iI r)] (mmW t0 s dr kp ps pm ik rs f il ec eo fr tt tk vl tn stm sts op wi ops opn tp pu ip nb ou ol) K KX := by
  have h6 := hq.rm.1
  refine methC (pf_Mm rfl) (tz_Mm rfl) rfl ?_
  refine run k_Mm_partsOf [5] 900 ?_
  (repeat ((conv => whnf); simp (disch := omega) only [Int.cast_ofNat_Int, Int.reduceToNat, iI_tt, Int.toNat_natCast, iI_add, iI_sub, iI_mul, iI_neg, lI_add, lI_sub, lI_mul, lI_neg, i2l_, l2i_, iI_lt, iI_le, iI_eq, lI_lt, lI_le, lI_eq, iI_lt0, iI_le0, iI_0lt, iI_0le, iI_eq0, iI_eq1, lI_lt0, lI_le0, lI_0lt, lI_0le, lI_eq0, ix_cl, ix_iff, upd_iI, updL_lI, lI_divF, lI_remF, iI_divF, iI_remF, em_eq, Int.not_lt, Int.not_le, true_implies, false_implies, and_true, true_and, not_true_eq_false, not_false_eq_true, true_or, or_true, or_false, false_or])); (conv => whnf)
  exact lq_parts hq h0 h8 h n.toNat 0 (by omega) (by omega)
theorem lq_wt {d mc ms : Nat} {t0 pm ik il ec eo fr tt tk vl tn sts ops opn tp ip ol : Int} {s dr kp ps rs stm op wi pu nb ou : Nat → Int} {f : Nat → Int32} {n ck st wh rg : Int} {md wt num acc : Nat → Int} {K : Option Value → PW → Prop} {KX : String → PW → Prop} {k : Int} (hq : QOk s n ck st wh rg md wt num acc) (k0 : 0 ≤ k) (kn : k < n) (h : K (some (.long (lI (wt k.toNat)))) (mmW t0 s dr kp ps pm ik rs f il ec eo fr tt tk vl tn stm sts op wi ops opn tp pu ip nb ou ol)) {i : Int} (hi1 : i < md k.toNat) (hi : wh / md k.toNat * i % md k.toNat = 1) (hne : ∀ j, 1 ≤ j → j < i → wh / md k.toNat * j % md k.toNat ≠ 1) (hwt : wt k.toNat = wh / md k.toNat * i) : ∀ (q : Nat) (t : Int), t + q = i → 1 ≤ t →
    GO M_Mm_weightOf (d + 3) mc ms 15 [some (.ref 0), some (.int (iI k)), some (.long (lI (wh / md k.toNat))), none, some (.long (lI (wh / md k.toNat * t)))] [] (mmW t0 s dr kp ps pm ik rs f il ec eo fr tt tk vl tn stm sts op wi ops opn tp pu ip nb ou ol) K KX := by
  have hk2 := hq.rm.2 k.toNat (by omega)
  obtain ⟨g1, g2, g3⟩ := hq.oth (k := k.toNat) (by omega)
  have hw := hq.mb.1
  have h6 := hq.rm.1
  have hb1 : wh / md k.toNat ≤ 1000000000 := Int.le_trans (Int.ediv_le_self _ (by omega)) (by omega)
  intro q
  induction q with
  | zero =>
    intro t ht t0
    have et : t = i := by omega
    subst et
    have b1 : wh / md k.toNat * t ≤ 1000000000 * 97 := Int.mul_le_mul hb1 (by omega) (by omega) (by omega)
    have b2 : 0 ≤ wh / md k.toNat * t := Int.mul_nonneg (by omega) (by omega)
    rw [hwt] at h
    refine run k_Mm_weightOf [15] 900 ?_
    (repeat ((conv => whnf); simp (disch := omega) only [Int.cast_ofNat_Int, Int.reduceToNat, iI_tt, Int.toNat_natCast, iI_add, iI_sub, iI_mul, iI_neg, lI_add, lI_sub, lI_mul, lI_neg, i2l_, l2i_, iI_lt, iI_le, iI_eq, lI_lt, lI_le, lI_eq, iI_lt0, iI_le0, iI_0lt, iI_0le, iI_eq0, iI_eq1, lI_lt0, lI_le0, lI_0lt, lI_0le, lI_eq0, ix_cl, ix_iff, upd_iI, updL_lI, lI_divF, lI_remF, iI_divF, iI_remF, em_eq, Int.not_lt, Int.not_le, true_implies, false_implies, and_true, true_and, not_true_eq_false, not_false_eq_true, true_or, or_true, or_false, false_or])); (conv => whnf)
    refine c_Mm_mod hq.rb k0 kn (by omega) ?_
    (repeat ((conv => whnf); simp (disch := omega) only [Int.cast_ofNat_Int, Int.reduceToNat, iI_tt, Int.toNat_natCast, iI_add, iI_sub, iI_mul, iI_neg, lI_add, lI_sub, lI_mul, lI_neg, i2l_, l2i_, iI_lt, iI_le, iI_eq, lI_lt, lI_le, lI_eq, iI_lt0, iI_le0, iI_0lt, iI_0le, iI_eq0, iI_eq1, lI_lt0, lI_le0, lI_0lt, lI_0le, lI_eq0, ix_cl, ix_iff, upd_iI, updL_lI, lI_divF, lI_remF, iI_divF, iI_remF, em_eq, Int.not_lt, Int.not_le, true_implies, false_implies, and_true, true_and, not_true_eq_false, not_false_eq_true, true_or, or_true, or_false, false_or])); (conv => whnf)
    (repeat ((conv => whnf); simp (disch := omega) only [Int.cast_ofNat_Int, Int.reduceToNat, iI_tt, Int.toNat_natCast, iI_add, iI_sub, iI_mul, iI_neg, lI_add, lI_sub, lI_mul, lI_neg, i2l_, l2i_, iI_lt, iI_le, iI_eq, lI_lt, lI_le, lI_eq, iI_lt0, iI_le0, iI_0lt, iI_0le, iI_eq0, iI_eq1, lI_lt0, lI_le0, lI_0lt, lI_0le, lI_eq0, ix_cl, ix_iff, upd_iI, updL_lI, lI_divF, lI_remF, iI_divF, iI_remF, em_eq, Int.not_lt, Int.not_le, true_implies, false_implies, and_true, true_and, not_true_eq_false, not_false_eq_true, true_or, or_true, or_false, false_or])); (conv => whnf)
    repeat' ((first | (refine ⟨fun _ => ?_, fun hb => absurd hb (by omega)⟩) | (refine ⟨fun hb => absurd hb (by omega), fun _ => ?_⟩) | (refine ⟨by omega, ?_⟩) | (refine ⟨⟨by omega, (by (conv => whnf); exact trivial)⟩, ?_⟩) | (refine ⟨(Nat.le_of_ble_eq_true rfl), bWp_ok _ (by (conv => whnf); exact trivial), ?_⟩) | (refine ⟨fun _ => ?_, fun _ => ?_⟩) | fail) <;> ((repeat ((conv => whnf); simp (disch := omega) only [Int.cast_ofNat_Int, Int.reduceToNat, iI_tt, Int.toNat_natCast, iI_add, iI_sub, iI_mul, iI_neg, lI_add, lI_sub, lI_mul, lI_neg, i2l_, l2i_, iI_lt, iI_le, iI_eq, lI_lt, lI_le, lI_eq, iI_lt0, iI_le0, iI_0lt, iI_0le, iI_eq0, iI_eq1, lI_lt0, lI_le0, lI_0lt, lI_0le, lI_eq0, ix_cl, ix_iff, upd_iI, updL_lI, lI_divF, lI_remF, iI_divF, iI_remF, em_eq, Int.not_lt, Int.not_le, true_implies, false_implies, and_true, true_and, not_true_eq_false, not_false_eq_true, true_or, or_true, or_false, false_or])); (conv => whnf)))
    exact h
  | succ q ih =>
    intro t ht t0
    have b1 : wh / md k.toNat * t ≤ 1000000000 * 97 := Int.mul_le_mul hb1 (by omega) (by omega) (by omega)
    have b2 : 0 ≤ wh / md k.toNat * t := Int.mul_nonneg (by omega) (by omega)
    have e5 := hne t t0 (by omega)
    have e6 := Int.emod_nonneg (wh / md k.toNat * t) (b := md k.toNat) (by omega)
    have e7 := Int.emod_lt_of_pos (wh / md k.toNat * t) (show 0 < md k.toNat by omega)
    have e8 : wh / md k.toNat * t + wh / md k.toNat = wh / md k.toNat * (t + 1) := by
      rw [Int.mul_add]
      omega
    refine run k_Mm_weightOf [15] 900 ?_
    (repeat ((conv => whnf); simp (disch := omega) only [Int.cast_ofNat_Int, Int.reduceToNat, iI_tt, Int.toNat_natCast, iI_add, iI_sub, iI_mul, iI_neg, lI_add, lI_sub, lI_mul, lI_neg, i2l_, l2i_, iI_lt, iI_le, iI_eq, lI_lt, lI_le, lI_eq, iI_lt0, iI_le0, iI_0lt, iI_0le, iI_eq0, iI_eq1, lI_lt0, lI_le0, lI_0lt, lI_0le, lI_eq0, ix_cl, ix_iff, upd_iI, updL_lI, lI_divF, lI_remF, iI_divF, iI_remF, em_eq, Int.not_lt, Int.not_le, true_implies, false_implies, and_true, true_and, not_true_eq_false, not_false_eq_true, true_or, or_true, or_false, false_or])); (conv => whnf)
    refine c_Mm_mod hq.rb k0 kn (by omega) ?_
    (repeat ((conv => whnf); simp (disch := omega) only [Int.cast_ofNat_Int, Int.reduceToNat, iI_tt, Int.toNat_natCast, iI_add, iI_sub, iI_mul, iI_neg, lI_add, lI_sub, lI_mul, lI_neg, i2l_, l2i_, iI_lt, iI_le, iI_eq, lI_lt, lI_le, lI_eq, iI_lt0, iI_le0, iI_0lt, iI_0le, iI_eq0, iI_eq1, lI_lt0, lI_le0, lI_0lt, lI_0le, lI_eq0, ix_cl, ix_iff, upd_iI, updL_lI, lI_divF, lI_remF, iI_divF, iI_remF, em_eq, Int.not_lt, Int.not_le, true_implies, false_implies, and_true, true_and, not_true_eq_false, not_false_eq_true, true_or, or_true, or_false, false_or])); (conv => whnf)
    (repeat ((conv => whnf); simp (disch := omega) only [Int.cast_ofNat_Int, Int.reduceToNat, iI_tt, Int.toNat_natCast, iI_add, iI_sub, iI_mul, iI_neg, lI_add, lI_sub, lI_mul, lI_neg, i2l_, l2i_, iI_lt, iI_le, iI_eq, lI_lt, lI_le, lI_eq, iI_lt0, iI_le0, iI_0lt, iI_0le, iI_eq0, iI_eq1, lI_lt0, lI_le0, lI_0lt, lI_0le, lI_eq0, ix_cl, ix_iff, upd_iI, updL_lI, lI_divF, lI_remF, iI_divF, iI_remF, em_eq, Int.not_lt, Int.not_le, true_implies, false_implies, and_true, true_and, not_true_eq_false, not_false_eq_true, true_or, or_true, or_false, false_or])); (conv => whnf)
    repeat' ((first | (refine ⟨fun _ => ?_, fun hb => absurd hb (by omega)⟩) | (refine ⟨fun hb => absurd hb (by omega), fun _ => ?_⟩) | (refine ⟨by omega, ?_⟩) | (refine ⟨⟨by omega, (by (conv => whnf); exact trivial)⟩, ?_⟩) | (refine ⟨(Nat.le_of_ble_eq_true rfl), bWp_ok _ (by (conv => whnf); exact trivial), ?_⟩) | (refine ⟨fun _ => ?_, fun _ => ?_⟩) | fail) <;> ((repeat ((conv => whnf); simp (disch := omega) only [Int.cast_ofNat_Int, Int.reduceToNat, iI_tt, Int.toNat_natCast, iI_add, iI_sub, iI_mul, iI_neg, lI_add, lI_sub, lI_mul, lI_neg, i2l_, l2i_, iI_lt, iI_le, iI_eq, lI_lt, lI_le, lI_eq, iI_lt0, iI_le0, iI_0lt, iI_0le, iI_eq0, iI_eq1, lI_lt0, lI_le0, lI_0lt, lI_0le, lI_eq0, ix_cl, ix_iff, upd_iI, updL_lI, lI_divF, lI_remF, iI_divF, iI_remF, em_eq, Int.not_lt, Int.not_le, true_implies, false_implies, and_true, true_and, not_true_eq_false, not_false_eq_true, true_or, or_true, or_false, false_or])); (conv => whnf)))
    rw [e8]
    exact ih (t + 1) (by omega) (by omega)
theorem c_Mm_weightOf {d mc ms : Nat} {t0 pm ik il ec eo fr tt tk vl tn sts ops opn tp ip ol : Int} {s dr kp ps rs stm op wi pu nb ou : Nat → Int} {f : Nat → Int32} {n ck st wh rg : Int} {md wt num acc : Nat → Int} {K : Option Value → PW → Prop} {KX : String → PW → Prop} {k : Int} (hq : QOk s n ck st wh rg md wt num acc) (k0 : 0 ≤ k) (kn : k < n) (h : K (some (.long (lI (wt k.toNat)))) (mmW t0 s dr kp ps pm ik rs f il ec eo fr tt tk vl tn stm sts op wi ops opn tp pu ip nb ou ol)) : WQ M_Mm_weightOf (d + 3) mc ms [.ref 0, .int (iI k)] (mmW t0 s dr kp ps pm ik rs f il ec eo fr tt tk vl tn stm sts op wi ops opn tp pu ip nb ou ol) K KX := by
  have hk2 := hq.rm.2 k.toNat (by omega)
  have hw := hq.mb.1
  have h6 := hq.rm.1
  obtain ⟨i, i1, i2, i3, i4, i5⟩ := hq.wt (k := k.toNat) (by omega)
  have := lq_wt (d := d) (mc := mc) (ms := ms) (KX := KX) hq k0 kn h i2 i3 i4 i5 (i - 1).toNat 1 (by omega) (by omega)
  rw [Int.mul_one] at this
  refine methC (pf_Mm rfl) (tz_Mm rfl) rfl ?_
  refine run k_Mm_weightOf [15] 900 ?_
  (repeat ((conv => whnf); simp (disch := omega) only [Int.cast_ofNat_Int, Int.reduceToNat, iI_tt, Int.toNat_natCast, iI_add, iI_sub, iI_mul, iI_neg, lI_add, lI_sub, lI_mul, lI_neg, i2l_, l2i_, iI_lt, iI_le, iI_eq, lI_lt, lI_le, lI_eq, iI_lt0, iI_le0, iI_0lt, iI_0le, iI_eq0, iI_eq1, lI_lt0, lI_le0, lI_0lt, lI_0le, lI_eq0, ix_cl, ix_iff, upd_iI, updL_lI, lI_divF, lI_remF, iI_divF, iI_remF, em_eq, Int.not_lt, Int.not_le, true_implies, false_implies, and_true, true_and, not_true_eq_false, not_false_eq_true, true_or, or_true, or_false, false_or])); (conv => whnf)
  refine c_Mm_whole hq.rb hq.rm ?_
  (repeat ((conv => whnf); simp (disch := omega) only [Int.cast_ofNat_Int, Int.reduceToNat, iI_tt, Int.toNat_natCast, iI_add, iI_sub, iI_mul, iI_neg, lI_add, lI_sub, lI_mul, lI_neg, i2l_, l2i_, iI_lt, iI_le, iI_eq, lI_lt, lI_le, lI_eq, iI_lt0, iI_le0, iI_0lt, iI_0le, iI_eq0, iI_eq1, lI_lt0, lI_le0, lI_0lt, lI_0le, lI_eq0, ix_cl, ix_iff, upd_iI, updL_lI, lI_divF, lI_remF, iI_divF, iI_remF, em_eq, Int.not_lt, Int.not_le, true_implies, false_implies, and_true, true_and, not_true_eq_false, not_false_eq_true, true_or, or_true, or_false, false_or])); (conv => whnf)
  rw [hq.wh]
  (repeat ((conv => whnf); simp (disch := omega) only [Int.cast_ofNat_Int, Int.reduceToNat, iI_tt, Int.toNat_natCast, iI_add, iI_sub, iI_mul, iI_neg, lI_add, lI_sub, lI_mul, lI_neg, i2l_, l2i_, iI_lt, iI_le, iI_eq, lI_lt, lI_le, lI_eq, iI_lt0, iI_le0, iI_0lt, iI_0le, iI_eq0, iI_eq1, lI_lt0, lI_le0, lI_0lt, lI_0le, lI_eq0, ix_cl, ix_iff, upd_iI, updL_lI, lI_divF, lI_remF, iI_divF, iI_remF, em_eq, Int.not_lt, Int.not_le, true_implies, false_implies, and_true, true_and, not_true_eq_false, not_false_eq_true, true_or, or_true, or_false, false_or])); (conv => whnf)
  refine c_Mm_mod hq.rb k0 kn (by omega) ?_
  (repeat ((conv => whnf); simp (disch := omega) only [Int.cast_ofNat_Int, Int.reduceToNat, iI_tt, Int.toNat_natCast, iI_add, iI_sub, iI_mul, iI_neg, lI_add, lI_sub, lI_mul, lI_neg, i2l_, l2i_, iI_lt, iI_le, iI_eq, lI_lt, lI_le, lI_eq, iI_lt0, iI_le0, iI_0lt, iI_0le, iI_eq0, iI_eq1, lI_lt0, lI_le0, lI_0lt, lI_0le, lI_eq0, ix_cl, ix_iff, upd_iI, updL_lI, lI_divF, lI_remF, iI_divF, iI_remF, em_eq, Int.not_lt, Int.not_le, true_implies, false_implies, and_true, true_and, not_true_eq_false, not_false_eq_true, true_or, or_true, or_false, false_or])); (conv => whnf)
  (repeat ((conv => whnf); simp (disch := omega) only [Int.cast_ofNat_Int, Int.reduceToNat, iI_tt, Int.toNat_natCast, iI_add, iI_sub, iI_mul, iI_neg, lI_add, lI_sub, lI_mul, lI_neg, i2l_, l2i_, iI_lt, iI_le, iI_eq, lI_lt, lI_le, lI_eq, iI_lt0, iI_le0, iI_0lt, iI_0le, iI_eq0, iI_eq1, lI_lt0, lI_le0, lI_0lt, lI_0le, lI_eq0, ix_cl, ix_iff, upd_iI, updL_lI, lI_divF, lI_remF, iI_divF, iI_remF, em_eq, Int.not_lt, Int.not_le, true_implies, false_implies, and_true, true_and, not_true_eq_false, not_false_eq_true, true_or, or_true, or_false, false_or])); (conv => whnf)
  repeat' ((first | (refine ⟨fun _ => ?_, fun hb => absurd hb (by omega)⟩) | (refine ⟨fun hb => absurd hb (by omega), fun _ => ?_⟩) | (refine ⟨by omega, ?_⟩) | (refine ⟨⟨by omega, (by (conv => whnf); exact trivial)⟩, ?_⟩) | (refine ⟨(Nat.le_of_ble_eq_true rfl), bWp_ok _ (by (conv => whnf); exact trivial), ?_⟩) | (refine ⟨fun _ => ?_, fun _ => ?_⟩) | fail) <;> ((repeat ((conv => whnf); simp (disch := omega) only [Int.cast_ofNat_Int, Int.reduceToNat, iI_tt, Int.toNat_natCast, iI_add, iI_sub, iI_mul, iI_neg, lI_add, lI_sub, lI_mul, lI_neg, i2l_, l2i_, iI_lt, iI_le, iI_eq, lI_lt, lI_le, lI_eq, iI_lt0, iI_le0, iI_0lt, iI_0le, iI_eq0, iI_eq1, lI_lt0, lI_le0, lI_0lt, lI_0le, lI_eq0, ix_cl, ix_iff, upd_iI, updL_lI, lI_divF, lI_remF, iI_divF, iI_remF, em_eq, Int.not_lt, Int.not_le, true_implies, false_implies, and_true, true_and, not_true_eq_false, not_false_eq_true, true_or, or_true, or_false, false_or])); (conv => whnf)))
  exact this
