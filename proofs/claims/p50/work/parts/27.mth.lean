/-! ARITHMETIC OF RESTS -/
theorem nin_sub (x w : Int) : ∃ q, nin x w = x - w * q := by
  have h := Int.mul_ediv_add_emod x w
  unfold nin
  split
  · exact ⟨x / w, by omega⟩
  · refine ⟨x / w + 1, ?_⟩
    rw [Int.mul_add]
    omega
theorem mod_sub {x w q m : Int} (h : m ∣ w) : (x - w * q) % m = x % m := by
  obtain ⟨c, rfl⟩ := h
  rw [Int.mul_assoc, Int.sub_mul_emod_self_left]
theorem nin_mod {x w m : Int} (h : m ∣ w) : nin x w % m = x % m := by
  obtain ⟨q, hq⟩ := nin_sub x w
  rw [hq, mod_sub h]
theorem nin_congr {x y w : Int} (h : x % w = y % w) : nin x w = nin y w := by
  unfold nin
  rw [h]
theorem nin_nin (x w : Int) : nin (nin x w) w = nin x w := nin_congr (nin_mod (Int.dvd_refl w))
theorem nin_id {x w : Int} (h1 : (w - 1) / 2 + 1 - w ≤ x) (h2 : x ≤ (w - 1) / 2) : nin x w = x := by
  unfold nin
  by_cases h : 0 ≤ x
  · rw [Int.emod_eq_of_lt h (by omega), if_pos h2]
  · have e : x % w = x + w := by
      rw [← Int.add_emod_right]
      exact Int.emod_eq_of_lt (by omega) (by omega)
    rw [e, if_neg (by omega)]
    omega
theorem nin_r {x w : Int} (h : 0 < w) : (w - 1) / 2 + 1 - w ≤ nin x w ∧ nin x w ≤ (w - 1) / 2 := by
  have h3 := Int.emod_nonneg x (b := w) (by omega)
  have h4 := Int.emod_lt_of_pos x h
  unfold nin
  split <;> omega
theorem PN_dvd {md : Nat → Int} {k : Nat} : ∀ (n : Nat), k < n → md k ∣ PN md n
  | 0, h => by omega
  | n + 1, h => by
    by_cases e : k = n
    · subst e
      exact Int.dvd_mul_left _ _
    · exact Int.dvd_trans (PN_dvd n (by omega)) (Int.dvd_mul_right _ _)
theorem emod_split {v p m : Int} (hp : 0 < p) (hm : 0 < m) : v % (p * m) = v % p + p * (v / p % m) := by
  have h1 := Int.mul_ediv_add_emod v p
  have h2 := Int.mul_ediv_add_emod (v / p) m
  have h3 := Int.emod_nonneg v (b := p) (by omega)
  have h4 := Int.emod_lt_of_pos v hp
  have h5 := Int.emod_nonneg (v / p) (b := m) (by omega)
  have h6 := Int.emod_lt_of_pos (v / p) hm
  have h7 : p * (v / p % m) ≤ p * (m - 1) := Int.mul_le_mul_of_nonneg_left (by omega) (by omega)
  have h8 : p * (m - 1) = p * m - p := by rw [Int.mul_sub]; omega
  have h9 : 0 ≤ p * (v / p % m) := Int.mul_nonneg (by omega) h5
  have e : v = v % p + p * (v / p % m) + p * m * (v / p / m) := by
    have : p * m * (v / p / m) + p * (v / p % m) = p * (v / p) := by
      rw [Int.mul_assoc, ← Int.mul_add, h2]
    omega
  calc v % (p * m) = (v % p + p * (v / p % m) + p * m * (v / p / m)) % (p * m) := by rw [← e]
    _ = (v % p + p * (v / p % m)) % (p * m) := Int.add_mul_emod_self_left _ _ _
    _ = v % p + p * (v / p % m) := Int.emod_eq_of_lt (by omega) (by omega)
/-- no common divisors -/
def Cop (md : Nat → Int) (n : Int) : Prop := ∀ j k : Nat, j < k → (k : Int) < n → Int.gcd (md j) (md k) = 1
theorem cop_PN {md : Nat → Int} {m : Int} : ∀ (i : Nat), (∀ j, j < i → Int.gcd (md j) m = 1) → Int.gcd (PN md i) m = 1
  | 0, _ => by simp [PN]
  | i + 1, h => by
    have h1 := cop_PN i (fun j hj => h j (by omega))
    have h2 := h i (by omega)
    show Int.gcd (PN md i * md i) m = 1
    unfold Int.gcd at *
    rw [Int.natAbs_mul]
    exact Nat.Coprime.mul_left h1 h2
theorem cop_dvd {p m z : Int} (h : Int.gcd p m = 1) (hz : m ∣ p * z) : m ∣ z := by
  have h1 : Nat.Coprime m.natAbs p.natAbs := Nat.Coprime.symm h
  have h2 : m.natAbs ∣ p.natAbs * z.natAbs := by
    rw [← Int.natAbs_mul]
    exact Int.natAbs_dvd_natAbs.mpr hz
  exact Int.natAbs_dvd_natAbs.mp (h1.dvd_of_dvd_mul_left h2)
theorem dvd_lt {m z : Int} (h : m ∣ z) (h0 : 0 ≤ z) (h1 : z < m) : z = 0 := by
  obtain ⟨c, rfl⟩ := h
  have hc : c = 0 := by
    rcases Int.lt_trichotomy c 0 with h2 | h2 | h2
    · have := Int.mul_le_mul_of_nonneg_left (show c ≤ -1 by omega) (show 0 ≤ m by omega)
      omega
    · exact h2
    · have := Int.mul_le_mul_of_nonneg_left (show 1 ≤ c by omega) (show 0 ≤ m by omega)
      omega
  rw [hc]
  omega
theorem mod_eq_dvd {a b m : Int} (h : a % m = b % m) : m ∣ a - b := by
  have h1 := Int.mul_ediv_add_emod a m
  have h2 := Int.mul_ediv_add_emod b m
  exact ⟨a / m - b / m, by rw [Int.mul_sub]; omega⟩
theorem dvd_mod {a b m : Int} (h : m ∣ a - b) : a % m = b % m := by
  obtain ⟨c, hc⟩ := h
  have e : a = b + m * c := by omega
  rw [e, Int.add_mul_emod_self_left]
/-- one step of the search for a value: at t the number has the right rest -/
theorem srch_ne {v p m t : Int} (hp : 0 < p) (hm : 0 < m) (hc : Int.gcd p m = 1) (h0 : 0 ≤ t) (ht : t < v / p % m) : ¬ (v % p + p * t) % m = v % m := by
  intro h
  have h6 := Int.emod_lt_of_pos (v / p) hm
  have e1 : v % (p * m) % m = v % m := Int.emod_emod_of_dvd v ⟨p, Int.mul_comm _ _⟩
  rw [emod_split hp hm] at e1
  have h1 := mod_eq_dvd (e1.trans h.symm)
  have h2 : v % p + p * (v / p % m) - (v % p + p * t) = p * (v / p % m - t) := by rw [Int.mul_sub]; omega
  rw [h2] at h1
  have h3 := dvd_lt (cop_dvd hc h1) (by omega) (by omega)
  omega
theorem srch_eq {v p m : Int} (hp : 0 < p) (hm : 0 < m) : (v % p + p * (v / p % m)) % m = v % m := by
  rw [← emod_split hp hm]
  exact Int.emod_emod_of_dvd v ⟨p, Int.mul_comm _ _⟩
theorem dvd_PN {md : Nat → Int} {z : Int} : ∀ (n : Nat), (∀ j k, j < k → k < n → Int.gcd (md j) (md k) = 1) → (∀ k, k < n → md k ∣ z) → PN md n ∣ z
  | 0, _, _ => by simp [PN]
  | n + 1, hc, h => by
    have h1 := dvd_PN n (fun j k a b => hc j k a (by omega)) (fun k hk => h k (by omega))
    have h2 := cop_PN (md := md) (m := md n) n (fun j hj => hc j n hj (by omega))
    obtain ⟨c, rfl⟩ := h1
    obtain ⟨d, hd⟩ := cop_dvd h2 (h n (by omega))
    exact ⟨d, by rw [hd]; show _ = PN md n * md n * d; rw [Int.mul_assoc]⟩
/-- the others' product, and what inverts it -/
theorem inv_fin : ∀ m : Fin 98, ∀ a : Fin 98, 1 < m.val → Nat.gcd a.val m.val = 1 → (List.range m.val).any (fun r => a.val * r % m.val == 1) = true := by decide +kernel
theorem inv_ex {a m : Int} (h0 : 0 ≤ a) (h1 : 1 < m) (h2 : m < 98) (hg : Int.gcd a m = 1) : ∃ r, 1 ≤ r ∧ r < m ∧ a * r % m = 1 := by
  have e3 := Int.emod_nonneg a (b := m) (by omega)
  have e4 := Int.emod_lt_of_pos a (show 0 < m by omega)
  have hg2 : Nat.gcd (a % m).toNat m.toNat = 1 := by
    rw [Int.toNat_emod h0 (by omega), ← Nat.gcd_rec, Nat.gcd_comm]
    unfold Int.gcd at hg
    have e1 : a.natAbs = a.toNat := by omega
    have e2 : m.natAbs = m.toNat := by omega
    rw [e1, e2] at hg
    exact hg
  have := inv_fin ⟨m.toNat, by omega⟩ ⟨(a % m).toNat, by omega⟩ (by show 1 < m.toNat; omega) hg2
  rw [List.any_eq_true] at this
  obtain ⟨r, h3, h4⟩ := this
  rw [List.mem_range] at h3
  have h5 : (a % m).toNat * r % m.toNat = 1 := by simpa using h4
  have h6 : a % m * (r : Int) % m = 1 := by
    have := congrArg (fun z : Nat => (z : Int)) h5
    simp only [Int.natCast_emod, Int.natCast_mul] at this
    rw [show ((a % m).toNat : Int) = a % m by omega, show (m.toNat : Int) = m by omega] at this
    exact this
  have h7 : a * (r : Int) % m = 1 := by
    have h9 : a * (r : Int) % m = a % m * (r : Int) % m := by rw [Int.mul_emod a r m, Int.mul_emod (a % m) r m, Int.emod_emod]
    rw [h9]
    exact h6
  refine ⟨r, ?_, by have h3 : r < m.toNat := h3; omega, h7⟩
  rcases Nat.eq_zero_or_pos r with h8 | h8
  · subst h8
    rw [Int.natCast_zero, Int.mul_zero, Int.zero_emod] at h7
    omega
  · omega
