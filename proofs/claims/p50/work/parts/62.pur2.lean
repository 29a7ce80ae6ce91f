/-! MENDS; MODULI COME AND GO -/
def MdR (n wh rg : Int) (md wt : Nat → Int) (x y : Int) : Prop := ¬ fitP rg x ∧ ∃ (k : Nat) (v : Int), (k : Int) < n ∧ (∀ j : Nat, j < k → ¬ fltB wh rg md wt x j = true) ∧ SrP wh rg (md k) (wt k) x v ∧ ¬ v = -1 ∧ y = nin (nwR wh (md k) (wt k) x v) wh
theorem SrP.u {wh rg m w x v u : Int} (h : SrP wh rg m w x v) (g : SrP wh rg m w x u) : v = u := by
  rcases h with ⟨a1, a2, a3, a4⟩ | ⟨a1, a2⟩ <;> rcases g with ⟨b1, b2, b3, b4⟩ | ⟨b1, b2⟩
  · by_cases e : v < u
    · exact absurd a3 (b4 v a1 e)
    · by_cases e2 : u < v
      · exact absurd b3 (a4 u b1 e2)
      · omega
  · exact absurd a3 (b2 v a1 a2)
  · exact absurd b3 (a2 u b1 b2)
  · omega
theorem MdR.u {n wh rg : Int} {md wt : Nat → Int} {x y z : Int} (h : MdR n wh rg md wt x y) (g : MdR n wh rg md wt x z) : y = z := by
  obtain ⟨-, k, v, h1, h2, h3, h4, rfl⟩ := h
  obtain ⟨-, j, u, g1, g2, g3, g4, rfl⟩ := g
  have e : k = j := by
    have a := (fltB_t h3).mpr h4
    have b := (fltB_t g3).mpr g4
    by_cases e1 : k < j
    · exact absurd a (g2 k e1)
    · by_cases e2 : j < k
      · exact absurd b (h2 j e2)
      · omega
  subst e
  rw [h3.u g3]
noncomputable def mdF (n wh rg : Int) (md wt : Nat → Int) (x : Int) : Option Int := @dite _ (∃ y, MdR n wh rg md wt x y) (Classical.propDecidable _) (fun h => some h.choose) (fun _ => none)
theorem mdF_s {n wh rg : Int} {md wt : Nat → Int} {x y : Int} (h : MdR n wh rg md wt x y) : mdF n wh rg md wt x = some y := by
  unfold mdF
  rw [dif_pos ⟨y, h⟩]
  have h9 : ∃ y, MdR n wh rg md wt x y := ⟨y, h⟩
  exact congrArg some (h9.choose_spec.u h)
theorem mdF_n {n wh rg : Int} {md wt : Nat → Int} {x : Int} (h : fitP rg x ∨ ∀ k : Nat, (k : Int) < n → ¬ fltB wh rg md wt x k = true) : mdF n wh rg md wt x = none := by
  unfold mdF
  rw [dif_neg]
  rintro ⟨y, h0, k, v, h1, h2, h3, h4, -⟩
  rcases h with h | h
  · exact h0 h
  · exact h k h1 ((fltB_t h3).mpr h4)
theorem ins_v {p n m : Int} {md : Nat → Int} (p0 : 0 ≤ p) {k : Nat} (hk : (k : Int) < n + 1) : insF p n m md k = if (k : Int) < p then md k else if (k : Int) = p then m else md (k - 1) := by
  unfold insF upI shF
  (repeat' split) <;> first | rfl | (exfalso; omega)
theorem PN_ins {p n m : Int} {md : Nat → Int} (p0 : 0 ≤ p) (pn : p ≤ n) : ∀ i : Nat, (i : Int) ≤ n + 1 → PN (insF p n m md) i = if (i : Int) ≤ p then PN md i else PN md (i - 1) * m
  | 0, _ => by
    rw [if_pos (by omega)]
    rfl
  | i + 1, hi => by
    have ih := PN_ins (m := m) (md := md) p0 pn i (by omega)
    show PN (insF p n m md) i * insF p n m md i = _
    rw [ih, ins_v p0 (by omega)]
    by_cases e1 : (i : Int) < p
    · rw [if_pos (by omega), if_pos e1, if_pos (by omega)]
      rfl
    · by_cases e2 : (i : Int) = p
      · rw [if_pos (by omega), if_neg e1, if_pos e2, if_neg (by omega)]
        rfl
      · rw [if_neg (by omega), if_neg e1, if_neg e2, if_neg (by omega)]
        obtain ⟨j, rfl⟩ : ∃ j, i = j + 1 := ⟨i - 1, by omega⟩
        show PN md j * m * md j = PN md j * md j * m
        rw [Int.mul_assoc, Int.mul_comm m, ← Int.mul_assoc]
theorem MOk.mdk {n ck wh rg : Int} {md wt num : Nat → Int} (h : MOk n ck wh rg md wt num) : MdOk n md := by
  obtain ⟨⟨b1, b2, b3⟩, m2, m3, m4, m5, m6, m7⟩ := h
  exact ⟨⟨b1.1, b1.2.1⟩, by rw [← m3]; omega, fun k hk => ⟨(b2 k hk).1, (b2 k hk).2.1⟩, m5⟩
theorem grow_md {n ck wh rg m : Int} {md wt num : Nat → Int} (h : MOk n ck wh rg md wt num) (h2 : 2 ≤ m ∧ m ≤ 97) (ht : takeP md n wh m) : MdOk (n + 1) (insF (n - ck) n m md) ∧ PN (insF (n - ck) n m md) (n + 1).toNat = wh * m := by
  have hd := h.mdk
  obtain ⟨⟨b1, b2, b3⟩, m2, m3, m4, m5, m6, m7⟩ := h
  have p0 : 0 ≤ n - ck := by omega
  have hP : PN (insF (n - ck) n m md) (n + 1).toNat = wh * m := by
    rw [PN_ins p0 (by omega) _ (by omega), if_neg (by omega), m3, show (n + 1).toNat - 1 = n.toNat by omega]
  have hc : ∀ k : Nat, (k : Int) < n → Int.gcd (md k) m = 1 := fun k hk => gcI_cop (by have := b2 k hk; omega) (by omega) (fun h9 => ht.2.2 ⟨k, hk, h9⟩)
  have hc2 : ∀ k : Nat, (k : Int) < n → Int.gcd m (md k) = 1 := fun k hk => by rw [Int.gcd_comm]; exact hc k hk
  refine ⟨⟨⟨by omega, by have := ht.1; omega⟩, by rw [hP]; have := ht.2.1; omega, fun k hk => ?_, fun j k hjk hk => ?_⟩, hP⟩
  · rw [ins_v p0 hk]
    split
    · exact hd.2.2.1 k (by omega)
    · split
      · exact h2
      · exact hd.2.2.1 (k - 1) (by omega)
  · rw [ins_v p0 hk, ins_v p0 (show (j : Int) < n + 1 by omega)]
    (repeat' split) <;> first | (exfalso; omega) | exact m5 _ _ (by omega) (by omega) | exact hc _ (by omega) | exact hc2 _ (by omega)
theorem nin_more {x w W : Int} (h1 : 1 ≤ w) (hW : w ≤ W) (h : nin x w = x) : nin x W = x := by
  have := (nin_fix (by omega)).mp h
  exact nin_id (by omega) (by omega)
theorem grow_ok {n ck wh rg m : Int} {md wt wt' num : Nat → Int} (h : MOk n ck wh rg md wt num) (h2 : 2 ≤ m ∧ m ≤ 97) (ht : takeP md n wh m) (hw : ∀ k : Nat, (k : Int) < n + 1 → WtOk (insF (n - ck) n m md) (PN (insF (n - ck) n m md) (n + 1).toNat) k (wt' k)) : MOk (n + 1) ck (PN (insF (n - ck) n m md) (n + 1).toNat) (PN (insF (n - ck) n m md) (n + 1 - ck).toNat) (insF (n - ck) n m md) wt' num := by
  obtain ⟨a1, a2⟩ := grow_md h h2 ht
  obtain ⟨⟨b1, b2, b3⟩, m2, m3, m4, m5, m6, m7⟩ := h
  refine MOk_of a1 (by omega) (by omega) hw (fun r hr => ?_)
  rw [a2]
  refine nin_more (w := wh) (by omega) ?_ (m7 r hr)
  have : wh * 2 ≤ wh * m := Int.mul_le_mul_of_nonneg_left h2.1 (by omega)
  omega
theorem del_v {a n : Int} {md : Nat → Int} {k : Nat} (hk : (k : Int) < n - 1) : delF (n - 1) a n md k = if (k : Int) < a then md k else md (k + 1) := by
  unfold delF
  (repeat' split) <;> first | rfl | (exfalso; omega)
theorem PN_del {a n : Int} {md : Nat → Int} (a0 : 0 ≤ a) : ∀ q : Nat, a + q ≤ n - 1 → PN (delF (n - 1) a n md) (a.toNat + q) * md a.toNat = PN md (a.toNat + q + 1)
  | 0, hq => by
    show PN (delF (n - 1) a n md) a.toNat * md a.toNat = PN md a.toNat * md a.toNat
    rw [PN_cong a.toNat (fun k hk => by
      rw [del_v (by omega), if_pos (by omega)])]
  | q + 1, hq => by
    have ih := PN_del (n := n) (md := md) a0 q (by omega)
    show PN (delF (n - 1) a n md) (a.toNat + q) * delF (n - 1) a n md (a.toNat + q) * md a.toNat = PN md (a.toNat + q + 1) * md (a.toNat + q + 1)
    rw [del_v (by omega), if_neg (by omega), ← ih, Int.mul_assoc, Int.mul_comm (md (a.toNat + q + 1)), ← Int.mul_assoc]
theorem drop_md {n ck wh rg a : Int} {md wt num : Nat → Int} (h : MOk n ck wh rg md wt num) (ha : 0 ≤ a ∧ a < n) (hd9 : dropP n ck wh md num a) : MdOk (n - 1) (delF (n - 1) a n md) ∧ PN (delF (n - 1) a n md) (n - 1).toNat = wh / md a.toNat := by
  have hd := h.mdk
  obtain ⟨⟨b1, b2, b3⟩, m2, m3, m4, m5, m6, m7⟩ := h
  have hma := b2 a.toNat (by omega)
  have hq := PN_del (n := n) (md := md) ha.1 (n - 1 - a).toNat (by omega)
  rw [show a.toNat + (n - 1 - a).toNat = (n - 1).toNat by omega, show (n - 1).toNat + 1 = n.toNat by omega, ← m3] at hq
  have hP : PN (delF (n - 1) a n md) (n - 1).toNat = wh / md a.toNat := (Int.ediv_eq_of_eq_mul_left (by omega) hq.symm).symm
  refine ⟨⟨⟨by omega, by omega⟩, ?_, fun k hk => ?_, fun j k hjk hk => ?_⟩, hP⟩
  · rw [hP]
    have := Int.ediv_le_self (md a.toNat) (show 0 ≤ wh by omega)
    omega
  · rw [del_v hk]
    split
    · exact hd.2.2.1 k (by omega)
    · exact hd.2.2.1 (k + 1) (by omega)
  · rw [del_v hk, del_v (show (j : Int) < n - 1 by omega)]
    (repeat' split) <;> first | (exfalso; omega) | exact m5 _ _ (by omega) (by omega)
theorem drop_ok {n ck wh rg a c' : Int} {md wt wt' num : Nat → Int} (h : MOk n ck wh rg md wt num) (ha : 0 ≤ a ∧ a < n) (hd9 : dropP n ck wh md num a) (hc' : c' = if n - ck ≤ a then ck - 1 else ck) (hw : ∀ k : Nat, (k : Int) < n - 1 → WtOk (delF (n - 1) a n md) (PN (delF (n - 1) a n md) (n - 1).toNat) k (wt' k)) : MOk (n - 1) c' (PN (delF (n - 1) a n md) (n - 1).toNat) (PN (delF (n - 1) a n md) (n - 1 - c').toNat) (delF (n - 1) a n md) wt' num := by
  obtain ⟨a1, a2⟩ := drop_md h ha hd9
  obtain ⟨⟨b1, b2, b3⟩, m2, m3, m4, m5, m6, m7⟩ := h
  refine MOk_of a1 (by have := hd9.1; omega) (by rw [hc']; split <;> omega) hw (fun r hr => ?_)
  rw [a2]
  exact hd9.2.2 r hr
