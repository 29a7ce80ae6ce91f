/-! FOUR BYTES IN AN INT -/
theorem gb_0 {x : BitVec 32} (h : x.toNat < 128) {m : Nat} (hm : 7 ≤ m) : x.getLsbD m = false := by
  unfold BitVec.getLsbD
  refine Nat.testBit_lt_two_pow (Nat.lt_of_lt_of_le h ?_)
  exact Nat.pow_le_pow_right (by decide) hm
def pkB (a b c d : BitVec 32) : BitVec 32 := (((0#32 ||| a <<< 24) ||| b <<< 16) ||| c <<< 8) ||| d <<< 0
theorem pk_a {a b c d : BitVec 32} (ha : a.toNat < 128) (hb : b.toNat < 128) (hc : c.toNat < 128) (hd : d.toNat < 128) : ((pkB a b c d).sshiftRight 24).setWidth 8 = a.setWidth 8 := by
  apply BitVec.eq_of_getLsbD_eq
  intro i hi
  have e1 := gb_0 hb (m := 24 + i - 16) (by omega)
  have e2 := gb_0 hc (m := 24 + i - 8) (by omega)
  have e3 := gb_0 hd (m := 24 + i) (by omega)
  simp only [BitVec.getLsbD_setWidth, BitVec.getLsbD_sshiftRight, pkB, BitVec.getLsbD_or, BitVec.getLsbD_shiftLeft, e1, e2, e3]
  simp [hi, show 24 + i < 32 by omega]
theorem pk_b {a b c d : BitVec 32} (ha : a.toNat < 128) (hb : b.toNat < 128) (hc : c.toNat < 128) (hd : d.toNat < 128) : ((pkB a b c d).sshiftRight 16).setWidth 8 = b.setWidth 8 := by
  apply BitVec.eq_of_getLsbD_eq
  intro i hi
  have e2 := gb_0 hc (m := 16 + i - 8) (by omega)
  have e3 := gb_0 hd (m := 16 + i) (by omega)
  simp only [BitVec.getLsbD_setWidth, BitVec.getLsbD_sshiftRight, pkB, BitVec.getLsbD_or, BitVec.getLsbD_shiftLeft, e2, e3]
  simp [hi, show 16 + i < 32 by omega, show 16 + i < 24 by omega]
