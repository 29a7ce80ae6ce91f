/-! FOUR BYTES IN AN INT -/
theorem gb_0 {x : BitVec 32} (h : x.toNat < 128) {m : Nat} (hm : 7 ≤ m) : x.getLsbD m = false := by
  unfold BitVec.getLsbD
  refine Nat.testBit_lt_two_pow (Nat.lt_of_lt_of_le h ?_)
  exact Nat.pow_le_pow_right (n := 2) (i := 7) (j := m) (by decide) hm
def pkB (a b c d : BitVec 32) : BitVec 32 := (((0#32 ||| a <<< 24) ||| b <<< 16) ||| c <<< 8) ||| d <<< 0
theorem pk_a {a b c d : BitVec 32} (hb : b.toNat < 128) (hc : c.toNat < 128) (hd : d.toNat < 128) : ((pkB a b c d).sshiftRight 24).setWidth 8 = a.setWidth 8 := by
  apply BitVec.eq_of_getLsbD_eq
  intro i hi
  have e1 := gb_0 hb (m := 24 + i - 16) (by omega)
  have e2 := gb_0 hc (m := 24 + i - 8) (by omega)
  have e3 := gb_0 hd (m := 24 + i - 0) (by omega)
  simp only [BitVec.getLsbD_setWidth, BitVec.getLsbD_sshiftRight, pkB, BitVec.getLsbD_or, BitVec.getLsbD_shiftLeft, e1, e2, e3]
  simp [hi, show 24 + i < 32 by omega, show ¬ 32 ≤ i by omega, show ¬ 24 + i < 24 by omega]
theorem pk_b {a b c d : BitVec 32} (hc : c.toNat < 128) (hd : d.toNat < 128) : ((pkB a b c d).sshiftRight 16).setWidth 8 = b.setWidth 8 := by
  apply BitVec.eq_of_getLsbD_eq
  intro i hi
  have e2 := gb_0 hc (m := 16 + i - 8) (by omega)
  have e3 := gb_0 hd (m := 16 + i - 0) (by omega)
  simp only [BitVec.getLsbD_setWidth, BitVec.getLsbD_sshiftRight, pkB, BitVec.getLsbD_or, BitVec.getLsbD_shiftLeft, e2, e3]
  simp [hi, show 16 + i < 32 by omega, show 16 + i < 24 by omega, show ¬ 32 ≤ i by omega, show ¬ 16 + i < 16 by omega]
theorem pk_c {a b c d : BitVec 32} (hd : d.toNat < 128) : ((pkB a b c d).sshiftRight 8).setWidth 8 = c.setWidth 8 := by
  apply BitVec.eq_of_getLsbD_eq
  intro i hi
  have e3 := gb_0 hd (m := 8 + i - 0) (by omega)
  simp only [BitVec.getLsbD_setWidth, BitVec.getLsbD_sshiftRight, pkB, BitVec.getLsbD_or, BitVec.getLsbD_shiftLeft, e3]
  simp [hi, show 8 + i < 32 by omega, show 8 + i < 24 by omega, show 8 + i < 16 by omega, show ¬ 32 ≤ i by omega, show ¬ 8 + i < 8 by omega]
theorem pk_d {a b c d : BitVec 32} : ((pkB a b c d).sshiftRight 0).setWidth 8 = d.setWidth 8 := by
  apply BitVec.eq_of_getLsbD_eq
  intro i hi
  simp only [BitVec.getLsbD_setWidth, BitVec.getLsbD_sshiftRight, pkB, BitVec.getLsbD_or, BitVec.getLsbD_shiftLeft]
  simp [hi, show 0 + i < 32 by omega, show i < 24 by omega, show i < 16 by omega, show ¬ 32 ≤ i by omega, show i < 8 by omega, show i < 32 by omega]
def pk4 (a b c d : Int) : Int32 := (((0 ||| (iI a <<< (iI 24 &&& 31))) ||| (iI b <<< (iI 16 &&& 31))) ||| (iI c <<< (iI 8 &&& 31))) ||| (iI d <<< (iI 0 &&& 31))
theorem pk4_B (a b c d : Int) : (pk4 a b c d).toBitVec = pkB (iI a).toBitVec (iI b).toBitVec (iI c).toBitVec (iI d).toBitVec := by
  unfold pk4 pkB
  rfl
theorem iI_bv {c : Int} (h0 : 0 ≤ c) (h1 : c ≤ 127) : (iI c).toBitVec.toNat < 128 := by
  have e : (iI c).toBitVec = BitVec.ofInt 32 c := rfl
  rw [e, BitVec.toNat_ofInt]
  omega
theorem sh_bv {x : Int32} {n : Nat} {k : Int32} (hk : k.toBitVec.smod 32 = BitVec.ofNat 32 n) (hn : n < 32) : (x >>> k).toInt8.toBitVec = (x.toBitVec.sshiftRight n).setWidth 8 := by
  show (x.toBitVec.sshiftRight' (k.toBitVec.smod 32)).signExtend 8 = _
  rw [BitVec.signExtend_eq_setWidth_of_le _ (by decide), hk]
  unfold BitVec.sshiftRight'
  rw [BitVec.toNat_ofNat, Nat.mod_eq_of_lt (by omega)]
theorem nar_pk {x : Int32} {k : Int32} {n : Nat} {c : Int} (h0 : 0 ≤ c) (h1 : c ≤ 127) (hk : k.toBitVec.smod 32 = BitVec.ofNat 32 n) (hn : n < 32) (h : (x.toBitVec.sshiftRight n).setWidth 8 = (iI c).toBitVec.setWidth 8) : vp_nar FieldType.byte (x >>> k).toInt8.toInt32 = iI c := by
  have e : (x >>> k).toInt8 = (iI c).toInt8 := by
    apply Int8.toBitVec_inj.mp
    rw [sh_bv hk hn, h, Int32.toBitVec_toInt8, BitVec.signExtend_eq_setWidth_of_le _ (by decide)]
  rw [e]
  exact nar_ok h0 h1
theorem p4_of {f : Nat → Int32} {il a b c d : Int} (ha : 0 ≤ a ∧ a ≤ 127) (hb : 0 ≤ b ∧ b ≤ 127) (hc : 0 ≤ c ∧ c ≤ 127) (hd : 0 ≤ d ∧ d ≤ 127) : p4F f il (pk4 a b c d) = upd (upd (upd (upd f il.toNat (iI a)) (il + 1).toNat (iI b)) (il + 1 + 1).toNat (iI c)) (il + 1 + 1 + 1).toNat (iI d) := by
  have vb := iI_bv hb.1 hb.2
  have vc := iI_bv hc.1 hc.2
  have vd := iI_bv hd.1 hd.2
  unfold p4F
  rw [nar_pk (n := 24) ha.1 ha.2 (by decide +kernel) (by decide) (by rw [pk4_B]; exact pk_a vb vc vd), nar_pk (n := 16) hb.1 hb.2 (by decide +kernel) (by decide) (by rw [pk4_B]; exact pk_b vc vd), nar_pk (n := 8) hc.1 hc.2 (by decide +kernel) (by decide) (by rw [pk4_B]; exact pk_c vd), nar_pk (n := 0) hd.1 hd.2 (by decide +kernel) (by decide) (by rw [pk4_B]; exact pk_d)]
