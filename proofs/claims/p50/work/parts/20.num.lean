/-! MACHINE NUMBERS BY WHOLE NUMBERS -/
theorem iI_toInt' (a : Int) : (iI a).toInt = a.bmod (2 ^ 32) := by unfold iI; exact Int32.toInt_ofInt
theorem lI_toInt' (a : Int) : (lI a).toInt = a.bmod (2 ^ 64) := by unfold lI; exact Int64.toInt_ofInt
theorem iI_t {a : Int} (h1 : -2147483648 ≤ a) (h2 : a < 2147483648) : (iI a).toInt = a := by
  rw [iI_toInt', Int.bmod_eq_of_le] <;> omega
theorem lI_t {a : Int} (h1 : -9223372036854775808 ≤ a) (h2 : a < 9223372036854775808) : (lI a).toInt = a := by
  rw [lI_toInt', Int.bmod_eq_of_le] <;> omega
theorem iI_of (x : Int32) : iI x.toInt = x := by unfold iI; exact Int32.ofInt_toInt x
theorem lI_of (x : Int64) : lI x.toInt = x := by unfold lI; exact Int64.ofInt_toInt x
theorem iI_add (a b : Int) : iI a + iI b = iI (a + b) := by
  apply Int32.toInt_inj.mp
  rw [Int32.toInt_add, iI_toInt', iI_toInt', iI_toInt', Int.bmod_add_bmod, Int.add_bmod_bmod]
theorem iI_sub (a b : Int) : iI a - iI b = iI (a - b) := by
  apply Int32.toInt_inj.mp
  rw [Int32.toInt_sub, iI_toInt', iI_toInt', iI_toInt', Int.bmod_sub_bmod, Int.sub_bmod_bmod]
theorem iI_mul (a b : Int) : iI a * iI b = iI (a * b) := by
  apply Int32.toInt_inj.mp
  rw [Int32.toInt_mul, iI_toInt', iI_toInt', iI_toInt', Int.bmod_mul_bmod, Int.mul_bmod_bmod]
theorem iI_neg (a : Int) : -iI a = iI (-a) := by
  apply Int32.toInt_inj.mp
  rw [Int32.toInt_neg, iI_toInt', iI_toInt']
  have := Int.sub_bmod_bmod (x := 0) (y := a) (n := 2 ^ 32)
  simpa using this
theorem lI_add (a b : Int) : lI a + lI b = lI (a + b) := by
  apply Int64.toInt_inj.mp
  rw [Int64.toInt_add, lI_toInt', lI_toInt', lI_toInt', Int.bmod_add_bmod, Int.add_bmod_bmod]
theorem lI_sub (a b : Int) : lI a - lI b = lI (a - b) := by
  apply Int64.toInt_inj.mp
  rw [Int64.toInt_sub, lI_toInt', lI_toInt', lI_toInt', Int.bmod_sub_bmod, Int.sub_bmod_bmod]
theorem lI_mul (a b : Int) : lI a * lI b = lI (a * b) := by
  apply Int64.toInt_inj.mp
  rw [Int64.toInt_mul, lI_toInt', lI_toInt', lI_toInt', Int.bmod_mul_bmod, Int.mul_bmod_bmod]
theorem lI_neg (a : Int) : -lI a = lI (-a) := by
  apply Int64.toInt_inj.mp
  rw [Int64.toInt_neg, lI_toInt', lI_toInt']
  have := Int.sub_bmod_bmod (x := 0) (y := a) (n := 2 ^ 64)
  simpa using this
/-- in the range of an int, of a long -/
abbrev r32 (a : Int) : Prop := -2147483648 ≤ a ∧ a < 2147483648
abbrev r64 (a : Int) : Prop := -9223372036854775808 ≤ a ∧ a < 9223372036854775808
theorem iI_lt {a b : Int} (ha : r32 a) (hb : r32 b) : iI a < iI b ↔ a < b := by rw [Int32.lt_iff_toInt_lt, iI_t ha.1 ha.2, iI_t hb.1 hb.2]
theorem iI_le {a b : Int} (ha : r32 a) (hb : r32 b) : iI a ≤ iI b ↔ a ≤ b := by rw [Int32.le_iff_toInt_le, iI_t ha.1 ha.2, iI_t hb.1 hb.2]
theorem iI_eq {a b : Int} (ha : r32 a) (hb : r32 b) : iI a = iI b ↔ a = b := by rw [← Int32.toInt_inj, iI_t ha.1 ha.2, iI_t hb.1 hb.2]
theorem lI_lt {a b : Int} (ha : r64 a) (hb : r64 b) : lI a < lI b ↔ a < b := by rw [Int64.lt_iff_toInt_lt, lI_t ha.1 ha.2, lI_t hb.1 hb.2]
theorem lI_le {a b : Int} (ha : r64 a) (hb : r64 b) : lI a ≤ lI b ↔ a ≤ b := by rw [Int64.le_iff_toInt_le, lI_t ha.1 ha.2, lI_t hb.1 hb.2]
theorem lI_eq {a b : Int} (ha : r64 a) (hb : r64 b) : lI a = lI b ↔ a = b := by rw [← Int64.toInt_inj, lI_t ha.1 ha.2, lI_t hb.1 hb.2]
theorem i0 : (0 : Int32) = iI 0 := rfl
theorem l0 : (0 : Int64) = lI 0 := rfl
theorem i2l_ {a : Int} (ha : r32 a) : (iI a).toInt64 = lI a := by
  apply Int64.toInt_inj.mp
  rw [Int32.toInt_toInt64, iI_t ha.1 ha.2, lI_t (by omega) (by omega)]
theorem l2i_ (a : Int) : (lI a).toInt32 = iI a := by
  apply Int32.toInt_inj.mp
  rw [Int64.toInt_toInt32, lI_toInt', iI_toInt', Int.bmod_bmod_of_dvd (by decide)]
theorem lI_div {a b : Int} (ha : r64 a) (hb : r64 b) (h : r64 (a.tdiv b)) : lI a / lI b = lI (a.tdiv b) := by
  apply Int64.toInt_inj.mp
  rw [Int64.toInt_div, lI_t ha.1 ha.2, lI_t hb.1 hb.2, lI_toInt']
theorem iI_div {a b : Int} (ha : r32 a) (hb : r32 b) (h : r32 (a.tdiv b)) : iI a / iI b = iI (a.tdiv b) := by
  apply Int32.toInt_inj.mp
  rw [Int32.toInt_div, iI_t ha.1 ha.2, iI_t hb.1 hb.2, iI_toInt']
theorem lI_rem {a b : Int} (ha : r64 a) (hb : r64 b) (h : r64 (a.tdiv b)) : lI a - lI a / lI b * lI b = lI (a.tmod b) := by
  rw [lI_div ha hb h, lI_mul, lI_sub]
  congr 1
  have := Int.mul_tdiv_add_tmod a b
  rw [Int.mul_comm] at this
  omega
theorem iI_rem {a b : Int} (ha : r32 a) (hb : r32 b) (h : r32 (a.tdiv b)) : iI a - iI a / iI b * iI b = iI (a.tmod b) := by
  rw [iI_div ha hb h, iI_mul, iI_sub]
  congr 1
  have := Int.mul_tdiv_add_tmod a b
  rw [Int.mul_comm] at this
  omega
/-- an index -/
theorem ix_cl {a : Int} (h0 : 0 ≤ a) (h : a < 2147483648) : (iI a).toNatClampNeg = a.toNat := by
  show (iI a).toInt.toNat = a.toNat
  rw [iI_t (by omega) h]
theorem ix_in {a : Int} {n : Nat} (h0 : 0 ≤ a) (h : a < n) (hn : n < 2147483648) : vp_in (iI a) n := by
  rw [vp_in_iff, iI_t (by omega) (by omega)]
  exact ⟨h0, h⟩
theorem iI_lt0 {a : Int} (ha : r32 a) : iI a < 0 ↔ a < 0 := by rw [i0, iI_lt ha ⟨by decide, by decide⟩]
theorem iI_le0 {a : Int} (ha : r32 a) : iI a ≤ 0 ↔ a ≤ 0 := by rw [i0, iI_le ha ⟨by decide, by decide⟩]
theorem iI_0lt {a : Int} (ha : r32 a) : 0 < iI a ↔ 0 < a := by rw [i0, iI_lt ⟨by decide, by decide⟩ ha]
theorem iI_0le {a : Int} (ha : r32 a) : 0 ≤ iI a ↔ 0 ≤ a := by rw [i0, iI_le ⟨by decide, by decide⟩ ha]
theorem iI_eq0 {a : Int} (ha : r32 a) : iI a = 0 ↔ a = 0 := by rw [i0, iI_eq ha ⟨by decide, by decide⟩]
theorem lI_lt0 {a : Int} (ha : r64 a) : lI a < 0 ↔ a < 0 := by rw [l0, lI_lt ha ⟨by decide, by decide⟩]
theorem lI_le0 {a : Int} (ha : r64 a) : lI a ≤ 0 ↔ a ≤ 0 := by rw [l0, lI_le ha ⟨by decide, by decide⟩]
theorem lI_0lt {a : Int} (ha : r64 a) : 0 < lI a ↔ 0 < a := by rw [l0, lI_lt ⟨by decide, by decide⟩ ha]
theorem lI_0le {a : Int} (ha : r64 a) : 0 ≤ lI a ↔ 0 ≤ a := by rw [l0, lI_le ⟨by decide, by decide⟩ ha]
theorem lI_eq0 {a : Int} (ha : r64 a) : lI a = 0 ↔ a = 0 := by rw [l0, lI_eq ha ⟨by decide, by decide⟩]
theorem ix_iff {a : Int} {n : Nat} (ha : r32 a) : vp_in (iI a) n ↔ (0 ≤ a ∧ a < (n : Int)) := by rw [vp_in_iff, iI_t ha.1 ha.2]
def upI (f : Nat → Int) (k : Nat) (v : Int) : Nat → Int := fun j => if j = k then v else f j
theorem upI_s {f : Nat → Int} {k : Nat} {v : Int} : upI f k v k = v := if_pos rfl
theorem upI_n {f : Nat → Int} {k j : Nat} {v : Int} (h : j ≠ k) : upI f k v j = f j := if_neg h
theorem upd_iI {f : Nat → Int} {k : Nat} {v : Int} : upd (fun j => iI (f j)) k (iI v) = fun j => iI (upI f k v j) := by
  funext j
  unfold upd upI
  split <;> rfl
theorem updL_lI {f : Nat → Int} {k : Nat} {v : Int} : vp_updL (fun j => lI (f j)) k (lI v) = fun j => lI (upI f k v j) := by
  funext j
  unfold vp_updL upI
  split <;> rfl
/-- quotients of numbers that aren't below 0 -/
theorem lI_divF {a b : Int} (ha : 0 ≤ a) (ha2 : a < 9223372036854775808) (hb : 0 < b) (hb2 : b < 9223372036854775808) : lI a / lI b = lI (a / b) := by
  have h1 : a / b ≤ a := Int.ediv_le_self b ha
  have h2 : 0 ≤ a / b := Int.ediv_nonneg ha (by omega)
  rw [lI_div ⟨by omega, ha2⟩ ⟨by omega, hb2⟩ (by rw [Int.tdiv_eq_ediv_of_nonneg ha]; exact ⟨by omega, by omega⟩), Int.tdiv_eq_ediv_of_nonneg ha]
theorem iI_divF {a b : Int} (ha : 0 ≤ a) (ha2 : a < 2147483648) (hb : 0 < b) (hb2 : b < 2147483648) : iI a / iI b = iI (a / b) := by
  have h1 : a / b ≤ a := Int.ediv_le_self b ha
  have h2 : 0 ≤ a / b := Int.ediv_nonneg ha (by omega)
  rw [iI_div ⟨by omega, ha2⟩ ⟨by omega, hb2⟩ (by rw [Int.tdiv_eq_ediv_of_nonneg ha]; exact ⟨by omega, by omega⟩), Int.tdiv_eq_ediv_of_nonneg ha]
theorem em_eq (a b : Int) : a - a / b * b = a % b := by
  have := Int.mul_ediv_add_emod a b
  rw [Int.mul_comm] at this
  omega
theorem lI_remF {a b : Int} (ha : 0 ≤ a) (ha2 : a < 9223372036854775808) (hb : 0 < b) (hb2 : b < 9223372036854775808) : lI a - lI a / lI b * lI b = lI (a % b) := by
  rw [lI_divF ha ha2 hb hb2, lI_mul, lI_sub, em_eq]
theorem iI_remF {a b : Int} (ha : 0 ≤ a) (ha2 : a < 2147483648) (hb : 0 < b) (hb2 : b < 2147483648) : iI a - iI a / iI b * iI b = iI (a % b) := by
  rw [iI_divF ha ha2 hb hb2, iI_mul, iI_sub, em_eq]
/-- the sign of an exclusive or -/
theorem l_neg (z : Int64) : z < 0 ↔ z.toBitVec.msb = true := by
  rw [Int64.lt_iff_toInt_lt, BitVec.msb_eq_toInt]
  simp
theorem lx_neg (x y : Int64) : x ^^^ y < 0 ↔ ¬ (x < 0 ↔ y < 0) := by
  rw [l_neg, l_neg, l_neg, Int64.toBitVec_xor, BitVec.msb_xor]
  cases x.toBitVec.msb <;> cases y.toBitVec.msb <;> simp
theorem lx_negI {x y : Int} (hx : r64 x) (hy : r64 y) : lI x ^^^ lI y < 0 ↔ ¬ (x < 0 ↔ y < 0) := by
  rw [lx_neg, lI_lt0 hx, lI_lt0 hy]
/-- methods, their first locals in plain form -/
def kIn {R : Sort _} : List Value → (PLo → R) → R
  | [], k => k []
  | v :: vs, k => match v with
    | .long z => kIn vs (fun l => k (some (.long z) :: none :: l))
    | .double z => kIn vs (fun l => k (some (.double z) :: none :: l))
    | v => kIn vs (fun l => k (some v :: l))
theorem kIn_eq {R : Sort _} : ∀ (vs : List Value) (k : PLo → R), kIn vs k = k (inL vs)
  | [], k => rfl
  | v :: vs, k => by cases v <;> exact kIn_eq vs _
theorem methC {M : MM} {d mc ms : Nat} {av : List Value} {w : PW} {K : Option Value → PW → Prop} {KX : String → PW → Prop} (hy : plainFor M.1 = true) (hz : tabOf M.1 = []) (hlen : Nat.ble (lg_sl (av.map (cV (fun k => k)))).length M.2.2.1 = true) (h : kIn av (fun ls => GO M d mc ms 0 ls [] w K KX)) : WQ M d mc ms av w K KX := by
  rw [kIn_eq] at h
  exact meth' _ rfl hy hz hlen h
theorem pf_R {y : MethodName} (h : y.cls = "RestMill") : plainFor y = true := plainFor_of_name (by rw [h]; decide)
theorem pf_Ml {y : MethodName} (h : y.cls = "RestMill$Mill") : plainFor y = true := plainFor_of_name (by rw [h]; decide)
theorem pf_Mo {y : MethodName} (h : y.cls = "RestMill$Moduli") : plainFor y = true := plainFor_of_name (by rw [h]; decide)
theorem pf_Ch {y : MethodName} (h : y.cls = "RestMill$Changes") : plainFor y = true := plainFor_of_name (by rw [h]; decide)
theorem pf_Tk {y : MethodName} (h : y.cls = "RestMill$Tokens") : plainFor y = true := plainFor_of_name (by rw [h]; decide)
theorem pf_Se {y : MethodName} (h : y.cls = "RestMill$SetupReader") : plainFor y = true := plainFor_of_name (by rw [h]; decide)
theorem pf_Sc {y : MethodName} (h : y.cls = "RestMill$ScriptReader") : plainFor y = true := plainFor_of_name (by rw [h]; decide)
theorem pf_Pg {y : MethodName} (h : y.cls = "RestMill$Program") : plainFor y = true := plainFor_of_name (by rw [h]; decide)
theorem pf_Mm {y : MethodName} (h : y.cls = "RestMillModel") : plainFor y = true := plainFor_of_name (by rw [h]; decide)
theorem pf_Lw {y : MethodName} (h : y.cls = "RestMillLaw") : plainFor y = true := plainFor_of_name (by rw [h]; decide)
theorem iI_eq1 {a : Int} (ha : r32 a) : iI a = 1 ↔ a = 1 := by rw [show (1 : Int32) = iI 1 from rfl, iI_eq ha ⟨by decide, by decide⟩]
theorem swK_nil {Kn : KN} {x : Int} {mc ms : Nat} {ls : PLo} {r : List Value} {w : PW} {lo : Int} : swK Kn x mc ms ls r w lo [] := trivial
theorem swK_cons {Kn : KN} {x : Int} {mc ms : Nat} {ls : PLo} {r : List Value} {w : PW} {lo : Int} {t : Nat} {ts : List Nat} (h1 : x = lo → Kn mc ms t ls r w) (h2 : swK Kn x mc ms ls r w (lo + 1) ts) : swK Kn x mc ms ls r w lo (t :: ts) := ⟨h1, h2⟩
theorem GO_take (n : Nat) {M : MM} {d mc ms pc : Nat} {ls : PLo} {st : List Value} {w : PW} {K : Option Value → PW → Prop} {KX : String → PW → Prop} (h : GO M d mc ms pc (ls.take n) st w K KX) : GO M d mc ms pc ls st w K KX := GO.weaken (fun j v hj => by
  rw [List.getElem?_take] at hj
  split at hj
  · exact hj
  · cases hj) h
theorem iI_tt {a : Int} (h : r32 a) : (iI a).toInt = a := iI_t h.1 h.2
