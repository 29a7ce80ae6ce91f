/-! WHAT COUNTS OF A MILL; moduli that come and go -/
theorem QOk_cong {s md wt num acc md' wt' num' acc' : Nat → Int} {n ck st wh rg : Int} (h : QOk s n ck st wh rg md wt num acc) (e1 : ∀ k : Nat, k < 6 → md' k = md k) (e2 : ∀ k : Nat, k < 6 → wt' k = wt k) (e3 : ∀ r : Nat, r < 8 → num' r = num r) (e4 : ∀ a : Nat, a < 8 → acc' a = acc a) : QOk s n ck st wh rg md' wt' num' acc' := by
  obtain ⟨⟨r1, r2, r3, r4⟩, ⟨⟨b1, b2, b3⟩, m2, m3, m4, m5, m6, m7⟩, hs⟩ := h
  have hn := b1.2.1
  have hp : ∀ i : Nat, (i : Int) ≤ n → PN md' i = PN md i := fun i hi => PN_cong i (fun k hk => e1 k (by omega))
  refine ⟨⟨r1, fun a ha => by rw [e4 a ha]; exact r2 a ha, fun k hk => by rw [e1 k (by omega)]; exact r3 k hk, fun r k hr hk => by rw [e3 r hr, e1 k (by omega)]; exact r4 r k hr hk⟩, ⟨⟨b1, fun k hk => ?_, fun r hr => by rw [e3 r hr]; exact b3 r hr⟩, m2, by rw [hp _ (by omega)]; exact m3, by rw [hp _ (by omega)]; exact m4, fun j k hjk hk => by rw [e1 j (by omega), e1 k (by omega)]; exact m5 j k hjk hk, fun k hk => ?_, fun r hr => by rw [e3 r hr]; exact m7 r hr⟩, hs⟩
  · rw [e1 k (by omega), e2 k (by omega)]
    exact b2 k hk
  · unfold WtOk
    rw [e1 k (by omega), e2 k (by omega)]
    exact m6 k hk
theorem cpyF_at {i : Int} {f g : Nat → Int} {j : Nat} (h : (j : Int) < i) : cpyF i f g j = f j := if_pos h
theorem QM_cp {s : Nat → Int} {m o : MS} (h : QM s m) : QM s (cpM m o) := QOk_cong h (fun k hk => cpyF_at (by omega)) (fun k hk => cpyF_at (by omega)) (fun k hk => cpyF_at (by omega)) (fun k hk => cpyF_at (by omega))
theorem HP_cong {ps : Nat → Int} {pm : Int} {hs hs' : Nat → MS} (h : HP ps pm hs) (e : ∀ i : Nat, (i : Int) < pm → ∀ s, QM s (hs i) → QM s (hs' i)) : HP ps pm hs' := ⟨h.1, fun i hi => e i hi _ (h.2 i hi)⟩
/-- the ring of the class, oldest first -/
def rgH (sl : Nat → MS) (nx cz : Int) : Nat → MS := fun i => sl ((nx + 9 - cz + (i : Int)) % 9).toNat
theorem HP_put {ps : Nat → Int} {sl : Nat → MS} {nx cz : Int} {m : MS} (n0 : 0 ≤ nx ∧ nx < 9) (h : HP ps cz (rgH sl nx cz)) : HP ps cz (rgH (sput sl nx.toNat m) nx cz) := by
  have hc := h.1
  refine HP_cong h (fun i hi s hq => ?_)
  have e : rgH (sput sl nx.toNat m) nx cz i = rgH sl nx cz i := by
    unfold rgH sput
    rw [if_neg (by omega)]
  rw [e]
  exact hq
theorem HP_kept9 {ps : Nat → Int} {sl : Nat → MS} {nx cz : Int} {m o : MS} (n0 : 0 ≤ nx ∧ nx < 9) (c0 : 0 ≤ cz ∧ cz ≤ 8) (h : HP ps (kpN cz) (kpH (rgH sl nx cz) cz m)) : HP ps (kpN cz) (rgH (sput sl nx.toNat (cpM m o)) ((nx + 1) % 9) (kpN cz)) := by
  have hk : kpN cz = if cz = 8 then 8 else cz + 1 := rfl
  refine HP_cong h (fun i hi s hq => ?_)
  unfold kpH at hq
  by_cases e1 : (i : Int) = kpN cz - 1
  · rw [if_pos e1] at hq
    have e : rgH (sput sl nx.toNat (cpM m o)) ((nx + 1) % 9) (kpN cz) i = cpM m o := by
      unfold rgH sput
      rw [if_pos (by rw [e1]; omega)]
    rw [e]
    exact QM_cp hq
  · rw [if_neg e1] at hq
    by_cases e2 : cz = 8
    · rw [if_pos e2] at hq
      rw [if_pos e2] at hk
      have e : rgH (sput sl nx.toNat (cpM m o)) ((nx + 1) % 9) (kpN cz) i = rgH sl nx cz (i + 1) := by
        unfold rgH sput
        rw [if_neg (by omega)]
        congr 1
        omega
      rw [e]
      exact hq
    · rw [if_neg e2] at hq
      rw [if_neg e2] at hk
      have e : rgH (sput sl nx.toNat (cpM m o)) ((nx + 1) % 9) (kpN cz) i = rgH sl nx cz i := by
        unfold rgH sput
        rw [if_neg (by omega)]
        congr 1
        omega
      rw [e]
      exact hq
theorem HP_back {ps : Nat → Int} {sl : Nat → MS} {nx cz : Int} {k : Nat} (n0 : 0 ≤ nx ∧ nx < 9) (c1 : 1 ≤ cz ∧ cz ≤ 8) (hk : (k : Int) = (nx + 9 - 1) % 9) (h : HP ps (cz - 1) (rgH sl nx cz)) : HP ps (cz - 1) (rgH sl (k : Int) (cz - 1)) := by
  refine HP_cong h (fun i hi s hq => ?_)
  have e : rgH sl (k : Int) (cz - 1) i = rgH sl nx cz i := by
    unfold rgH
    congr 1
    omega
  rw [e]
  exact hq
theorem rgH_last {sl : Nat → MS} {nx cz : Int} {k : Nat} (n0 : 0 ≤ nx ∧ nx < 9) (c1 : 1 ≤ cz ∧ cz ≤ 8) (hk : (k : Int) = (nx + 9 - 1) % 9) : rgH sl nx cz (cz - 1).toNat = sl k := by
  unfold rgH
  congr 1
  omega
theorem HP_nil {ps : Nat → Int} {hs : Nat → MS} : HP ps 0 hs := ⟨⟨by decide, by decide⟩, fun i hi => by omega⟩
/-! grown -/
theorem ins_v {p n m : Int} {md : Nat → Int} (p0 : 0 ≤ p) {k : Nat} (hk : (k : Int) < n + 1) : insF p n m md k = if (k : Int) < p then md k else if (k : Int) = p then m else md (k - 1) := by
  unfold insF upI shF
  (repeat' split) <;> first | rfl | (exfalso; omega)
theorem PN_ins {p n m : Int} {md : Nat → Int} (p0 : 0 ≤ p) (pn : p ≤ n) : ∀ i : Nat, (i : Int) ≤ n + 1 → PN (insF p n m md) i = if (i : Int) ≤ p then PN md i else PN md (i - 1) * m
  | 0, _ => by
    rw [if_pos (by omega)]
    rfl
  | i + 1, hi => by
    have ih := PN_ins (m := m) (md := md) p0 pn i (by omega)
    show PN (insF p n m md) i * insF p n m md i = _
    rw [ih, ins_v p0 (by omega)]
    by_cases e1 : (i : Int) < p
    · rw [if_pos (by omega), if_pos e1, if_pos (by omega)]
      rfl
    · by_cases e2 : (i : Int) = p
      · rw [if_pos (by omega), if_neg e1, if_pos e2, if_neg (by omega)]
        rfl
      · rw [if_neg (by omega), if_neg e1, if_neg e2, if_neg (by omega)]
        obtain ⟨j, rfl⟩ : ∃ j, i = j + 1 := ⟨i - 1, by omega⟩
        show PN md j * m * md j = PN md j * md j * m
        rw [Int.mul_assoc, Int.mul_comm m, ← Int.mul_assoc]
theorem MOk.mdk {n ck wh rg : Int} {md wt num : Nat → Int} (h : MOk n ck wh rg md wt num) : MdOk n md := by
  obtain ⟨⟨b1, b2, b3⟩, m2, m3, m4, m5, m6, m7⟩ := h
  exact ⟨⟨b1.1, b1.2.1⟩, by rw [← m3]; omega, fun k hk => ⟨(b2 k hk).1, (b2 k hk).2.1⟩, m5⟩
theorem grow_md {n ck wh rg m : Int} {md wt num : Nat → Int} (h : MOk n ck wh rg md wt num) (h2 : 2 ≤ m ∧ m ≤ 97) (ht : takeP md n wh m) : MdOk (n + 1) (insF (n - ck) n m md) ∧ PN (insF (n - ck) n m md) (n + 1).toNat = wh * m := by
  have hd := h.mdk
  obtain ⟨⟨b1, b2, b3⟩, m2, m3, m4, m5, m6, m7⟩ := h
  have p0 : 0 ≤ n - ck := by omega
  have hP : PN (insF (n - ck) n m md) (n + 1).toNat = wh * m := by
    rw [PN_ins p0 (by omega) _ (by omega), if_neg (by omega), m3, show (n + 1).toNat - 1 = n.toNat by omega]
  have hc : ∀ k : Nat, (k : Int) < n → Int.gcd (md k) m = 1 := fun k hk => gcI_cop (by have := b2 k hk; omega) (by omega) (fun h9 => ht.2.2 ⟨k, hk, h9⟩)
  have hc2 : ∀ k : Nat, (k : Int) < n → Int.gcd m (md k) = 1 := fun k hk => by rw [Int.gcd_comm]; exact hc k hk
  refine ⟨⟨⟨by omega, by have := ht.1; omega⟩, by rw [hP]; have := ht.2.1; omega, fun k hk => ?_, fun j k hjk hk => ?_⟩, hP⟩
  · rw [ins_v p0 hk]
    split
    · exact hd.2.2.1 k (by omega)
    · split
      · exact h2
      · exact hd.2.2.1 (k - 1) (by omega)
  · rw [ins_v p0 hk, ins_v p0 (show (j : Int) < n + 1 by omega)]
    (repeat' split) <;> first | (exfalso; omega) | exact m5 _ _ (by omega) (by omega) | exact hc _ (by omega) | exact hc2 _ (by omega)
theorem nin_more {x w W : Int} (h1 : 1 ≤ w) (hW : w ≤ W) (h : nin x w = x) : nin x W = x := by
  have := (nin_fix (by omega)).mp h
  exact nin_id (by omega) (by omega)
theorem grow_ok {n ck wh rg m : Int} {md wt wt' num : Nat → Int} (h : MOk n ck wh rg md wt num) (h2 : 2 ≤ m ∧ m ≤ 97) (ht : takeP md n wh m) (hw : ∀ k : Nat, (k : Int) < n + 1 → WtOk (insF (n - ck) n m md) (PN (insF (n - ck) n m md) (n + 1).toNat) k (wt' k)) : MOk (n + 1) ck (PN (insF (n - ck) n m md) (n + 1).toNat) (PN (insF (n - ck) n m md) (n + 1 - ck).toNat) (insF (n - ck) n m md) wt' num := by
  obtain ⟨a1, a2⟩ := grow_md h h2 ht
  obtain ⟨⟨b1, b2, b3⟩, m2, m3, m4, m5, m6, m7⟩ := h
  refine MOk_of a1 (by omega) (by omega) hw (fun r hr => ?_)
  rw [a2]
  refine nin_more (w := wh) (by omega) ?_ (m7 r hr)
  have : wh * 2 ≤ wh * m := Int.mul_le_mul_of_nonneg_left h2.1 (by omega)
  omega
/-! shrunk -/
theorem del_v {a n : Int} {md : Nat → Int} {k : Nat} (hk : (k : Int) < n - 1) : delF (n - 1) a n md k = if (k : Int) < a then md k else md (k + 1) := by
  unfold delF
  (repeat' split) <;> first | rfl | (exfalso; omega)
theorem PN_del {a n : Int} {md : Nat → Int} (a0 : 0 ≤ a) : ∀ q : Nat, a + q ≤ n - 1 → PN (delF (n - 1) a n md) (a.toNat + q) * md a.toNat = PN md (a.toNat + q + 1)
  | 0, hq => by
    show PN (delF (n - 1) a n md) a.toNat * md a.toNat = PN md a.toNat * md a.toNat
    rw [PN_cong a.toNat (fun k hk => by
      rw [del_v (by omega), if_pos (by omega)])]
  | q + 1, hq => by
    have ih := PN_del (n := n) (md := md) a0 q (by omega)
    show PN (delF (n - 1) a n md) (a.toNat + q) * delF (n - 1) a n md (a.toNat + q) * md a.toNat = PN md (a.toNat + q + 1) * md (a.toNat + q + 1)
    rw [del_v (by omega), if_neg (by omega), ← ih, Int.mul_assoc, Int.mul_comm (md (a.toNat + q + 1)), ← Int.mul_assoc]
theorem drop_md {n ck wh rg a : Int} {md wt num : Nat → Int} (h : MOk n ck wh rg md wt num) (ha : 0 ≤ a ∧ a < n) (hd9 : dropP n ck wh md num a) : MdOk (n - 1) (delF (n - 1) a n md) ∧ PN (delF (n - 1) a n md) (n - 1).toNat = wh / md a.toNat := by
  have hd := h.mdk
  obtain ⟨⟨b1, b2, b3⟩, m2, m3, m4, m5, m6, m7⟩ := h
  have hma := b2 a.toNat (by omega)
  have hq := PN_del (n := n) (md := md) ha.1 (n - 1 - a).toNat (by omega)
  rw [show a.toNat + (n - 1 - a).toNat = (n - 1).toNat by omega, show (n - 1).toNat + 1 = n.toNat by omega, ← m3] at hq
  have hP : PN (delF (n - 1) a n md) (n - 1).toNat = wh / md a.toNat := (Int.ediv_eq_of_eq_mul_left (by omega) hq.symm).symm
  refine ⟨⟨⟨by omega, by omega⟩, ?_, fun k hk => ?_, fun j k hjk hk => ?_⟩, hP⟩
  · rw [hP]
    have := Int.ediv_le_self (md a.toNat) (show 0 ≤ wh by omega)
    omega
  · rw [del_v hk]
    split
    · exact hd.2.2.1 k (by omega)
    · exact hd.2.2.1 (k + 1) (by omega)
  · rw [del_v hk, del_v (show (j : Int) < n - 1 by omega)]
    (repeat' split) <;> first | (exfalso; omega) | exact m5 _ _ (by omega) (by omega)
theorem drop_ok {n ck wh rg a c' : Int} {md wt wt' num : Nat → Int} (h : MOk n ck wh rg md wt num) (ha : 0 ≤ a ∧ a < n) (hd9 : dropP n ck wh md num a) (hc' : c' = if n - ck ≤ a then ck - 1 else ck) (hw : ∀ k : Nat, (k : Int) < n - 1 → WtOk (delF (n - 1) a n md) (PN (delF (n - 1) a n md) (n - 1).toNat) k (wt' k)) : MOk (n - 1) c' (PN (delF (n - 1) a n md) (n - 1).toNat) (PN (delF (n - 1) a n md) (n - 1 - c').toNat) (delF (n - 1) a n md) wt' num := by
  obtain ⟨a1, a2⟩ := drop_md h ha hd9
  obtain ⟨⟨b1, b2, b3⟩, m2, m3, m4, m5, m6, m7⟩ := h
  refine MOk_of a1 (by have := hd9.1; omega) (by rw [hc']; split <;> omega) hw (fun r hr => ?_)
  rw [a2]
  exact hd9.2.2 r hr
