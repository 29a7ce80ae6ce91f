/-! SETUPS, as functions: an error (its code, its offset), or what is read -/
abbrev EE9 : Type := Int × Int
def tkE (b : Nat → Int) (n k p : Int) : Sum EE9 Int := if kd b n p = k then .inr (nx b n p) else .inl (1, p)
def upE (b : Nat → Int) (n g p : Int) : Sum EE9 (Int × Int) := if kd b n p = 258 then (if amt b n p ≤ g then .inr (amt b n p, nx b n p) else .inl (2, p)) else .inl (1, p)
def bnE {α β : Type} (x : Sum EE9 α) (g : α → Sum EE9 β) : Sum EE9 β := match x with
  | .inl e => .inl e
  | .inr a => g a
def comB (md : Nat → Int) (c m : Int) : Bool := (List.range c.toNat).any (fun k => decide (1 < gcI (md k) m))
theorem comB_t {md : Nat → Int} {c m : Int} : comB md c m = true ↔ comP md c m := by
  unfold comB comP
  rw [List.any_eq_true]
  constructor
  · rintro ⟨k, h1, h2⟩
    rw [List.mem_range] at h1
    exact ⟨k, by omega, by simpa using h2⟩
  · rintro ⟨k, h1, h2⟩
    exact ⟨k, List.mem_range.mpr (by omega), by simpa using h2⟩
/-- what is wrong with a modulus -/
def mcF (b : Nat → Int) (n c : Int) (md : Nat → Int) (p : Int) : Int := if kd b n p = 258 then (if amt b n p < 2 ∨ 97 < amt b n p ∨ 1000000000 < PN md c.toNat * amt b n p then 2 else if comB md c (amt b n p) = true then 4 else if c < 6 then 0 else 5) else 1
def modE (b : Nat → Int) (n : Int) : Nat → Int → (Nat → Int) → Int → Sum EE9 (Int × (Nat → Int) × Int)
  | 0, _, _, p => .inl (1, p)
  | q + 1, c, md, p => if 2 ≤ c ∧ kd b n p = 59 then .inr (c, md, p) else if mcF b n c md p = 0 then modE b n q (c + 1) (upI md c.toNat (amt b n p)) (nx b n p) else .inl (mcF b n c md p, p)
def chkE (b : Nat → Int) (n c p : Int) : Sum EE9 (Int × Int) := if kd b n p = 261 then bnE (upE b n (if 2 ≤ c - 1 then 2 else c - 1) (nx b n p)) (fun v => bnE (tkE b n 59 v.2) (fun p2 => .inr (v.1, p2))) else .inr (0, p)
def strE (b : Nat → Int) (n p : Int) : Sum EE9 (Int × Int) := if kd b n p = 262 then bnE (upE b n 1 (nx b n p)) (fun v => bnE (tkE b n 59 v.2) (fun p2 => .inr (v.1, p2))) else .inr (0, p)
/-- one "set", from the register on -/
def oneE (b : Nat → Int) (n h p : Int) : Sum EE9 (Int × Int) := bnE (upE b n h (if kd b n (nx b n p) = 45 then nx b n (nx b n p) else nx b n p)) (fun v => bnE (tkE b n 59 v.2) (fun p2 => .inr (if kd b n (nx b n p) = 45 then -v.1 else v.1, p2)))
def setsE (b : Nat → Int) (n h : Int) : Nat → Int → (Nat → Int) → Int → Sum EE9 (Nat → Int)
  | 0, _, _, p => .inl (1, p)
  | q + 1, κ, nu, p => if kd b n p = 263 then (if kd b n (nx b n p) = 259 then (if κ / 2 ^ (amt b n (nx b n p)).toNat % 2 = 1 then .inl (3, nx b n p) else bnE (oneE b n h (nx b n p)) (fun v => setsE b n h q (κ + 2 ^ (amt b n (nx b n p)).toNat) (upI nu (amt b n (nx b n p)).toNat v.1) v.2)) else .inl (1, nx b n p)) else if kd b n p = 256 then .inr nu else .inl (1, p)
/-- all of it: how many moduli, CHECKS, STRICT, moduli, numbers -/
def setupE (b : Nat → Int) (n : Int) : Sum EE9 ((Int × Int × Int) × (Nat → Int) × (Nat → Int)) :=
  bnE (tkE b n 260 (sk b n 0)) (fun p => bnE (modE b n 8 0 z0 p) (fun v => bnE (tkE b n 59 v.2.2) (fun p1 => bnE (chkE b n v.1 p1) (fun c => bnE (strE b n c.2) (fun t => bnE (setsE b n ((PN v.2.1 (v.1 - c.1).toNat - 1) / 2) 9 0 z0 t.2) (fun nu => .inr ((v.1, c.1, t.1), v.2.1, nu)))))))
/-! moduli that agree -/
theorem PN_cong {md md' : Nat → Int} : ∀ (c : Nat), (∀ k, k < c → md k = md' k) → PN md c = PN md' c
  | 0, _ => rfl
  | c + 1, h => by
    show PN md c * md c = PN md' c * md' c
    rw [PN_cong c (fun k hk => h k (by omega)), h c (by omega)]
theorem comP_cong {md md' : Nat → Int} {c m : Int} (h : ∀ k : Nat, (k : Int) < c → md k = md' k) : comP md c m ↔ comP md' c m := by
  unfold comP
  constructor
  · rintro ⟨k, a, b⟩
    exact ⟨k, a, by rw [← h k a]; exact b⟩
  · rintro ⟨k, a, b⟩
    exact ⟨k, a, by rw [h k a]; exact b⟩
theorem comB_cong {md md' : Nat → Int} {c m : Int} (h : ∀ k : Nat, (k : Int) < c → md k = md' k) : comB md c m = comB md' c m := by
  have h1 := comB_t (md := md) (c := c) (m := m)
  have h2 := comB_t (md := md') (c := c) (m := m)
  rw [comP_cong h, ← h2] at h1
  cases e1 : comB md c m <;> cases e2 : comB md' c m <;> simp_all
theorem mcF_cong {b : Nat → Int} {n c p : Int} {md md' : Nat → Int} (h : ∀ k : Nat, (k : Int) < c → md k = md' k) : mcF b n c md p = mcF b n c md' p := by
  unfold mcF
  rw [PN_cong c.toNat (fun k hk => h k (by omega)), comB_cong h]
/-- what a list of moduli must be -/
def MdOk (c : Int) (md : Nat → Int) : Prop := (0 ≤ c ∧ c ≤ 6) ∧ PN md c.toNat ≤ 1000000000 ∧ (∀ k : Nat, (k : Int) < c → 2 ≤ md k ∧ md k ≤ 97) ∧ Cop md c
theorem gcI_cop {a m : Int} (ha : 0 < a) (hm : 0 < m) (h : ¬ 1 < gcI a m) : Int.gcd a m = 1 := by
  unfold gcI at h
  have h1 : 0 < Nat.gcd a.toNat m.toNat := Nat.gcd_pos_of_pos_left _ (by omega)
  unfold Int.gcd
  rw [show a.natAbs = a.toNat by omega, show m.natAbs = m.toNat by omega]
  omega
theorem MdOk.ins {c m : Int} {md : Nat → Int} (h : MdOk c md) (hc : c < 6) (m2 : 2 ≤ m) (m97 : m ≤ 97) (hp : PN md c.toNat * m ≤ 1000000000) (hn : ¬ comP md c m) : MdOk (c + 1) (upI md c.toNat m) := by
  obtain ⟨h0, h1, h2, h3⟩ := h
  have e : ∀ k, k < c.toNat → upI md c.toNat m k = md k := fun k hk => upI_n (by omega)
  refine ⟨by omega, ?_, fun k hk => ?_, fun j k hjk hk => ?_⟩
  · rw [PN_s h0.1, PN_cong c.toNat e, upI_s]
    exact hp
  · by_cases e2 : k = c.toNat
    · rw [e2, upI_s]
      exact ⟨m2, m97⟩
    · rw [upI_n e2]
      exact h2 k (by omega)
  · rw [upI_n (show j ≠ c.toNat by omega)]
    have hj := h2 j (by omega)
    by_cases e2 : k = c.toNat
    · rw [e2, upI_s]
      exact gcI_cop (by omega) (by omega) (fun h9 => hn ⟨j, by omega, h9⟩)
    · rw [upI_n e2]
      exact h3 j k hjk (by omega)
theorem mcF_0 {b : Nat → Int} {n c p : Int} {md : Nat → Int} (h : mcF b n c md p = 0) : kd b n p = 258 ∧ (2 ≤ amt b n p ∧ amt b n p ≤ 97) ∧ PN md c.toNat * amt b n p ≤ 1000000000 ∧ ¬ comP md c (amt b n p) ∧ c < 6 := by
  unfold mcF at h
  split at h
  · next h1 =>
    split at h
    · omega
    · next h2 =>
      split at h
      · omega
      · next h3 =>
        split at h
        · next h4 => exact ⟨h1, by omega, by omega, fun h9 => h3 (comB_t.mpr h9), h4⟩
        · omega
  · omega
theorem mcF_b {b : Nat → Int} {n c p : Int} {md : Nat → Int} : 0 ≤ mcF b n c md p ∧ mcF b n c md p ≤ 5 := by
  unfold mcF
  (repeat' split) <;> omega
/-- registers told, as bits -/
theorem bits_fin : ∀ k : Fin 256, ∀ r : Fin 8, ((iI (k.val : Int) &&& (iI 1 <<< (iI (r.val : Int) &&& 31)) = 0 ↔ k.val / 2 ^ r.val % 2 = 0) ∧ ((iI (k.val : Int) >>> (iI (r.val : Int) &&& 31)) &&& iI 1 = iI ((k.val / 2 ^ r.val % 2 : Nat) : Int)) ∧ (k.val / 2 ^ r.val % 2 = 0 → iI (k.val : Int) ||| (iI 1 <<< (iI (r.val : Int) &&& 31)) = iI ((k.val + 2 ^ r.val : Nat) : Int) ∧ k.val + 2 ^ r.val < 256)) := by decide +kernel
