/-! TEXTS: bytes, runs, tokens, as functions -/
def bA (f : Nat → Int32) (j : Nat) : Int := (f j &&& iI 255).toInt
theorem bA_of (f : Nat → Int32) (j : Nat) : f j &&& iI 255 = iI (bA f j) := by
  unfold bA
  rw [iI_of]
theorem bA_b (f : Nat → Int32) (j : Nat) : 0 ≤ bA f j ∧ bA f j ≤ 255 := by
  unfold bA
  have h : (f j &&& iI 255).toBitVec = (f j).toBitVec &&& 255#32 := rfl
  have h2 : (f j &&& iI 255).toInt = (((f j).toBitVec &&& 255#32).toInt) := rfl
  have h3 : ((f j).toBitVec &&& 255#32).toNat ≤ 255 := by
    rw [BitVec.toNat_and]
    exact Nat.and_le_right
  have h4 : ((f j).toBitVec &&& 255#32).toInt = (((f j).toBitVec &&& 255#32).toNat : Int) := by
    rw [BitVec.toInt_eq_toNat_of_lt]
    omega
  rw [h2, h4]
  omega
def isSp (c : Int) : Bool := c == 32 || c == 10
def isLe (c : Int) : Bool := decide (97 ≤ c) && decide (c ≤ 122)
def isDi (c : Int) : Bool := decide (48 ≤ c) && decide (c ≤ 57)
def isSg (c : Int) : Bool := c == 59 || c == 61 || c == 43 || c == 45 || c == 42 || c == 47 || c == 37 || c == 40 || c == 41
theorem isSp_t {c : Int} : isSp c = true ↔ c = 32 ∨ c = 10 := by unfold isSp; simp
theorem isLe_t {c : Int} : isLe c = true ↔ 97 ≤ c ∧ c ≤ 122 := by unfold isLe; simp
theorem isDi_t {c : Int} : isDi c = true ↔ 48 ≤ c ∧ c ≤ 57 := by unfold isDi; simp
theorem isSg_t {c : Int} : isSg c = true ↔ c = 59 ∨ c = 61 ∨ c = 43 ∨ c = 45 ∨ c = 42 ∨ c = 47 ∨ c = 37 ∨ c = 40 ∨ c = 41 := by
  unfold isSg
  simp [or_assoc]
/-- the end of a run -/
def ruF (P : Int → Bool) (b : Nat → Int) (n : Int) : Nat → Int → Int
  | 0, p => p
  | q + 1, p => if (decide (p < n) && P (b p.toNat)) = true then ruF P b n q (p + 1) else p
def ru (P : Int → Bool) (b : Nat → Int) (n p : Int) : Int := ruF P b n (n - p).toNat p
theorem ru_s {P : Int → Bool} {b : Nat → Int} {n p : Int} (h : p < n) (hP : P (b p.toNat) = true) : ru P b n p = ru P b n (p + 1) := by
  unfold ru
  rw [show (n - p).toNat = (n - (p + 1)).toNat + 1 by omega]
  show (if _ then _ else _) = _
  rw [if_pos (by rw [hP]; simp; exact h)]
theorem ru_e {P : Int → Bool} {b : Nat → Int} {n p : Int} (h : ¬ (p < n ∧ P (b p.toNat) = true)) : ru P b n p = p := by
  unfold ru
  cases hq : (n - p).toNat with
  | zero => rfl
  | succ q =>
    show (if _ then _ else _) = _
    rw [if_neg (by simp; intro h1; cases hc : P (b p.toNat) with
      | false => rfl
      | true => exact absurd ⟨h1, hc⟩ h)]
theorem ruF_b {P : Int → Bool} {b : Nat → Int} {n : Int} : ∀ (q : Nat) (p : Int), p ≤ n → p ≤ ruF P b n q p ∧ ruF P b n q p ≤ n
  | 0, p, h => ⟨Int.le_refl _, h⟩
  | q + 1, p, h => by
    show p ≤ (if _ then _ else _) ∧ (if _ then _ else _) ≤ n
    split
    · next hc =>
      simp at hc
      have := ruF_b (P := P) (b := b) (n := n) q (p + 1) (by omega)
      exact ⟨by omega, this.2⟩
    · exact ⟨Int.le_refl _, h⟩
theorem ru_b {P : Int → Bool} {b : Nat → Int} {n p : Int} (h : p ≤ n) : p ≤ ru P b n p ∧ ru P b n p ≤ n := ruF_b _ _ h
theorem ruF_end {P : Int → Bool} {b : Nat → Int} {n : Int} : ∀ (q : Nat) (p : Int), (n - p).toNat ≤ q → ¬ (ruF P b n q p < n ∧ P (b (ruF P b n q p).toNat) = true)
  | 0, p, h => fun ⟨h1, _⟩ => by
    have : ruF P b n 0 p = p := rfl
    omega
  | q + 1, p, h => by
    have e : ruF P b n (q + 1) p = if (decide (p < n) && P (b p.toNat)) = true then ruF P b n q (p + 1) else p := rfl
    rw [e]
    split
    · exact ruF_end q (p + 1) (by omega)
    · next hc =>
      intro ⟨h1, h2⟩
      exact hc (by rw [h2]; simp; exact h1)
theorem ru_end {P : Int → Bool} {b : Nat → Int} {n p : Int} : ¬ (ru P b n p < n ∧ P (b (ru P b n p).toNat) = true) := ruF_end _ _ (Nat.le_refl _)
def sk (b : Nat → Int) (n p : Int) : Int := ru isSp b n p
/-- the end of a token, what it is, its amount -/
def en (b : Nat → Int) (n p : Int) : Int := if p < n then (if isLe (b p.toNat) = true then ru isLe b n p else if isDi (b p.toNat) = true then ru isDi b n p else p + 1) else n
def nx (b : Nat → Int) (n p : Int) : Int := sk b n (en b n p)
theorem en_b {b : Nat → Int} {n p : Int} (h : p ≤ n) : p ≤ en b n p ∧ en b n p ≤ n ∧ (p < n → p < en b n p) := by
  unfold en
  by_cases h1 : p < n
  · rw [if_pos h1]
    by_cases h2 : isLe (b p.toNat) = true
    · rw [if_pos h2, ru_s h1 h2]
      have := ru_b (P := isLe) (b := b) (p := p + 1) (n := n) (by omega)
      omega
    · rw [if_neg h2]
      by_cases h3 : isDi (b p.toNat) = true
      · rw [if_pos h3, ru_s h1 h3]
        have := ru_b (P := isDi) (b := b) (p := p + 1) (n := n) (by omega)
        omega
      · rw [if_neg h3]
        omega
  · rw [if_neg h1]
    omega
theorem sk_b {b : Nat → Int} {n p : Int} (h : p ≤ n) : p ≤ sk b n p ∧ sk b n p ≤ n := ru_b h
theorem nx_b {b : Nat → Int} {n p : Int} (h : p ≤ n) : p ≤ nx b n p ∧ nx b n p ≤ n ∧ (p < n → p < nx b n p) := by
  have h1 := en_b (b := b) h
  have h2 := sk_b (b := b) (p := en b n p) h1.2.1
  unfold nx
  omega
theorem nx_n {b : Nat → Int} {n : Int} : nx b n n = n := by
  have e : en b n n = n := by
    unfold en
    rw [if_neg (by omega)]
  unfold nx
  rw [e]
  exact ru_e (by omega)
def wdB (b : Nat → Int) (p : Int) (w : List Int) : Bool := (List.range w.length).all (fun k => b (p.toNat + k) == w.getD k 0)
def wIs (b : Nat → Int) (p e : Int) (w : List Int) : Bool := (e - p == (w.length : Int)) && wdB b p w
def wk (b : Nat → Int) (p e : Int) : Int := if wIs b p e [109, 111, 100, 117, 108, 105] = true then 260 else if wIs b p e [99, 104, 101, 99, 107, 115] = true then 261 else if wIs b p e [115, 116, 114, 105, 99, 116] = true then 262 else if wIs b p e [115, 101, 116] = true then 263 else if wIs b p e [115, 99, 97, 108, 101] = true then 264 else if wIs b p e [115, 119, 97, 112] = true then 265 else if wIs b p e [109, 101, 110, 100] = true then 266 else 257
def kd (b : Nat → Int) (n p : Int) : Int := if p < n then (if isLe (b p.toNat) = true then (if en b n p - p = 1 ∧ b p.toNat < 105 then 259 else wk b p (en b n p)) else if isDi (b p.toNat) = true then (if en b n p - p ≤ 9 then 258 else 257) else if isSg (b p.toNat) = true then b p.toNat else 257) else 256
def vF (b : Nat → Int) (p : Nat) : Nat → Int
  | 0 => 0
  | k + 1 => if k < 9 then vF b p k * 10 + b (p + k) - 48 else vF b p k
def amt (b : Nat → Int) (n p : Int) : Int := if p < n then (if isLe (b p.toNat) = true then (if en b n p - p = 1 ∧ b p.toNat < 105 then b p.toNat - 97 else 0) else if isDi (b p.toNat) = true then vF b p.toNat (en b n p - p).toNat else 0) else 0
theorem kd_end {b : Nat → Int} {n : Int} : kd b n n = 256 := by
  unfold kd
  rw [if_neg (by omega)]
theorem wk_b {b : Nat → Int} {p e : Int} : 257 ≤ wk b p e ∧ wk b p e ≤ 266 := by
  unfold wk
  (repeat' split) <;> omega
theorem isSg_b {c : Int} (h : isSg c = true) : 37 ≤ c ∧ c ≤ 61 := by
  have := isSg_t.mp h
  omega
theorem kd_b {b : Nat → Int} {n p : Int} : 37 ≤ kd b n p ∧ kd b n p ≤ 266 := by
  have h1 := wk_b (b := b) (p := p) (e := en b n p)
  unfold kd
  split
  · split
    · split <;> omega
    · split
      · split <;> omega
      · split
        · next h => have := isSg_b h; omega
        · omega
  · omega
/-- the amounts of numbers have at most nine digits -/
theorem vF_b {b : Nat → Int} {p : Nat} : ∀ (k : Nat), (∀ j, j < k → isDi (b (p + j)) = true) → 0 ≤ vF b p k ∧ vF b p k < 10 ^ (min k 9)
  | 0, _ => by simp [vF]
  | k + 1, h => by
    have h1 := vF_b k (fun j hj => h j (by omega))
    have h2 := isDi_t.mp (h k (by omega))
    show 0 ≤ (if k < 9 then _ else _) ∧ (if k < 9 then _ else _) < _
    by_cases h9 : k < 9
    · rw [if_pos h9]
      rw [show min k 9 = k by omega] at h1
      rw [show min (k + 1) 9 = k + 1 by omega, Int.pow_succ]
      omega
    · rw [if_neg h9]
      rw [show min k 9 = 9 by omega] at h1
      rw [show min (k + 1) 9 = 9 by omega]
      exact h1
theorem vF_b9 {b : Nat → Int} {p k : Nat} (h : ∀ j, j < k → isDi (b (p + j)) = true) : 0 ≤ vF b p k ∧ vF b p k < 1000000000 := by
  have h1 := vF_b k h
  have h2 : (10 : Int) ^ (min k 9) ≤ 1000000000 := by
    have : (10 : Int) ^ (min k 9) ≤ 10 ^ 9 := by
      have h3 : (10 : Nat) ^ (min k 9) ≤ 10 ^ 9 := Nat.pow_le_pow_right (by omega) (by omega)
      exact_mod_cast h3
    exact this
  omega
theorem ruF_all {P : Int → Bool} {b : Nat → Int} {n : Int} : ∀ (q : Nat) (p : Int), 0 ≤ p → ∀ j : Int, p ≤ j → j < ruF P b n q p → P (b j.toNat) = true
  | 0, p, h0, j, h1, h2 => by
    have : ruF P b n 0 p = p := rfl
    omega
  | q + 1, p, h0, j, h1, h2 => by
    have e : ruF P b n (q + 1) p = if (decide (p < n) && P (b p.toNat)) = true then ruF P b n q (p + 1) else p := rfl
    rw [e] at h2
    split at h2
    · next hc =>
      simp at hc
      by_cases e2 : j = p
      · rw [e2]
        exact hc.2
      · exact ruF_all q (p + 1) (by omega) j (by omega) h2
    · omega
theorem ru_all {P : Int → Bool} {b : Nat → Int} {n p : Int} (h0 : 0 ≤ p) {j : Int} (h1 : p ≤ j) (h2 : j < ru P b n p) : P (b j.toNat) = true := ruF_all _ _ h0 j h1 h2
theorem amt_b {b : Nat → Int} {n p : Int} (h0 : 0 ≤ p) (hn : p ≤ n) : 0 ≤ amt b n p ∧ amt b n p < 1000000000 := by
  unfold amt
  split
  · next hp =>
    split
    · next hl =>
      have := isLe_t.mp hl
      split <;> omega
    · next hl =>
      split
      · next hd =>
        refine vF_b9 (fun j hj => ?_)
        have e : en b n p = ru isDi b n p := by
          unfold en
          rw [if_pos hp, if_neg hl, if_pos hd]
        rw [e] at hj
        have h3 := ru_all (P := isDi) (b := b) (n := n) h0 (j := p + j) (by omega) (by omega)
        rw [show (p + (j : Int)).toNat = p.toNat + j by omega] at h3
        exact h3
      · omega
  · omega
theorem amt_reg {b : Nat → Int} {n p : Int} (h : kd b n p = 259) : amt b n p = b p.toNat - 97 ∧ 0 ≤ amt b n p ∧ amt b n p < 8 := by
  have h1 := wk_b (b := b) (p := p) (e := en b n p)
  unfold kd at h
  unfold amt
  by_cases hp : p < n
  · rw [if_pos hp] at h ⊢
    by_cases hl : isLe (b p.toNat) = true
    · rw [if_pos hl] at h ⊢
      have := isLe_t.mp hl
      by_cases hc : en b n p - p = 1 ∧ b p.toNat < 105
      · rw [if_pos hc]
        omega
      · rw [if_neg hc] at h
        unfold wk at h
        (repeat' split at h) <;> omega
    · rw [if_neg hl] at h
      by_cases hd : isDi (b p.toNat) = true
      · rw [if_pos hd] at h
        split at h <;> omega
      · rw [if_neg hd] at h
        split at h
        · next hs => have := isSg_b hs; omega
        · omega
  · rw [if_neg hp] at h
    omega
/-- the tokens of a text, one behind the other -/
def stT (b : Nat → Int) (n : Int) : Nat → Int
  | 0 => sk b n 0
  | i + 1 => nx b n (stT b n i)
theorem stT_b {b : Nat → Int} {n : Int} (h : 0 ≤ n) : ∀ i, 0 ≤ stT b n i ∧ stT b n i ≤ n
  | 0 => by
    have := sk_b (b := b) (n := n) (p := 0) h
    exact ⟨this.1, this.2⟩
  | i + 1 => by
    have h1 := stT_b (b := b) h i
    have := nx_b (b := b) (n := n) (p := stT b n i) h1.2
    show 0 ≤ nx b n (stT b n i) ∧ nx b n (stT b n i) ≤ n
    omega
/-! words are told apart -/
theorem wIs_t {b : Nat → Int} {p e : Int} {w : List Int} : wIs b p e w = true ↔ e - p = (w.length : Int) ∧ ∀ k, k < w.length → b (p.toNat + k) = w.getD k 0 := by
  unfold wIs wdB
  rw [Bool.and_eq_true, beq_iff_eq, List.all_eq_true]
  refine and_congr Iff.rfl ⟨fun h k hk => ?_, fun h k hk => ?_⟩
  · have := h k (List.mem_range.mpr hk)
    simpa using this
  · have := h k (List.mem_range.mp hk)
    simpa using this
