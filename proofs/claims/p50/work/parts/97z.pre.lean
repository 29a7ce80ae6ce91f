/-! TEXTS AS LISTS -/
def OW (L : List Int) (ou : Nat → Int) (ol : Int) : Prop := ol = L.length ∧ ∀ j x, L[j]? = some x → ou j = x
theorem OW.nil {ou : Nat → Int} : OW [] ou 0 := ⟨rfl, fun j x h => by cases h⟩
theorem OW.add {L : List Int} {ou : Nat → Int} {ol : Int} (h : OW L ou ol) (x : Int) : OW (L ++ [x]) (upI ou ol.toNat x) (ol + 1) := by
  obtain ⟨h1, h2⟩ := h
  subst h1
  refine ⟨by rw [List.length_append, List.length_singleton]; omega, fun j y hy => ?_⟩
  rw [Int.toNat_natCast]
  rw [List.getElem?_append] at hy
  by_cases e : j < L.length
  · rw [if_pos e] at hy
    rw [upI_n (by omega)]
    exact h2 j y hy
  · rw [if_neg e] at hy
    by_cases e2 : j = L.length
    · subst e2
      rw [Nat.sub_self] at hy
      cases hy
      rw [upI_s]
    · have : ([x] : List Int)[j - L.length]? = none := List.getElem?_eq_none (by rw [List.length_singleton]; omega)
      rw [this] at hy
      cases hy
theorem nar_fin : ∀ c : Fin 128, vp_nar FieldType.byte (iI (c.val : Int)).toInt8.toInt32 = iI (c.val : Int) := by decide +kernel
theorem nar_ok {c : Int} (h0 : 0 ≤ c) (h1 : c ≤ 127) : vp_nar FieldType.byte (iI c).toInt8.toInt32 = iI c := by
  have := nar_fin ⟨c.toNat, by omega⟩
  simp only at this
  rw [show ((c.toNat : Nat) : Int) = c by omega] at this
  exact this
def T10 : Nat → Int
  | 0 => 1
  | k + 1 => T10 k * 10
def kD (z : Int) : Nat := if z < 10 then 0 else if z < 100 then 1 else if z < 1000 then 2 else if z < 10000 then 3 else if z < 100000 then 4 else if z < 1000000 then 5 else if z < 10000000 then 6 else if z < 100000000 then 7 else if z < 1000000000 then 8 else 9
def wdL (z : Int) : Nat → List Int
  | 0 => [48 + z / T10 0 % 10]
  | k + 1 => (48 + z / T10 (k + 1) % 10) :: wdL z k
def deL (v : Int) : List Int := if v < 0 then 45 :: wdL (-v) (kD (-v)) else wdL v (kD v)
theorem wdL_len {z : Int} : ∀ k, (wdL z k).length = k + 1
  | 0 => rfl
  | k + 1 => by
    show (wdL z k).length + 1 = _
    rw [wdL_len k]
theorem kD_b {z : Int} : kD z ≤ 9 := by
  unfold kD
  (repeat' split) <;> omega
theorem T10_fin : ∀ k : Fin 10, 1 ≤ T10 k.val ∧ T10 k.val ≤ 1000000000 := by decide +kernel
theorem T10_b {k : Nat} (h : k ≤ 9) : 1 ≤ T10 k ∧ T10 k ≤ 1000000000 := T10_fin ⟨k, by omega⟩
theorem deL_len {v : Int} : 1 ≤ (deL v).length ∧ (deL v).length ≤ 11 := by
  unfold deL
  split
  · rw [List.length_cons, wdL_len]
    have := kD_b (z := -v)
    omega
  · rw [wdL_len]
    have := kD_b (z := v)
    omega
theorem kD_lt {z : Int} (h0 : 0 ≤ z) (h1 : z ≤ 1000000000) : ∀ {i : Nat}, i ≤ 9 → (9 < z / T10 i ↔ i < kD z) := by
  intro i hi
  have hi9 : i = 0 ∨ i = 1 ∨ i = 2 ∨ i = 3 ∨ i = 4 ∨ i = 5 ∨ i = 6 ∨ i = 7 ∨ i = 8 ∨ i = 9 := by omega
  have t0 : T10 0 = 1 := by decide
  have t1 : T10 1 = 10 := by decide
  have t2 : T10 2 = 100 := by decide
  have t3 : T10 3 = 1000 := by decide
  have t4 : T10 4 = 10000 := by decide
  have t5 : T10 5 = 100000 := by decide
  have t6 : T10 6 = 1000000 := by decide
  have t7 : T10 7 = 10000000 := by decide
  have t8 : T10 8 = 100000000 := by decide
  have t9 : T10 9 = 1000000000 := by decide
  unfold kD
  rcases hi9 with rfl | rfl | rfl | rfl | rfl | rfl | rfl | rfl | rfl | rfl
  · rw [t0]; (repeat' split) <;> omega
  · rw [t1]; (repeat' split) <;> omega
  · rw [t2]; (repeat' split) <;> omega
  · rw [t3]; (repeat' split) <;> omega
  · rw [t4]; (repeat' split) <;> omega
  · rw [t5]; (repeat' split) <;> omega
  · rw [t6]; (repeat' split) <;> omega
  · rw [t7]; (repeat' split) <;> omega
  · rw [t8]; (repeat' split) <;> omega
  · rw [t9]; (repeat' split) <;> omega
