/-! WHAT HOLDS OF A MILL, as numbers -/
def MOk (n ck wh rg : Int) (md wt num : Nat → Int) : Prop := MB n ck wh rg md wt num ∧ 2 ≤ n ∧ wh = PN md n.toNat ∧ rg = PN md (n - ck).toNat ∧ Cop md n ∧ (∀ k : Nat, (k : Int) < n → WtOk md wh k (wt k)) ∧ (∀ r : Nat, r < 8 → nin (num r) wh = num r)
def RM (n ck : Int) (md : Nat → Int) : Prop := (0 ≤ n ∧ n ≤ 6 ∧ 0 ≤ ck ∧ ck ≤ n ∧ PN md n.toNat ≤ 1000000000) ∧ (∀ k : Nat, (k : Int) < n → 2 ≤ md k ∧ md k ≤ 97)
theorem RM.pn {n ck : Int} {md : Nat → Int} (h : RM n ck md) {i : Int} (hi : i ≤ n) : 1 ≤ PN md i.toNat ∧ PN md i.toNat ≤ 1000000000 := by
  have h1 := h.1
  refine ⟨PN_pos _ (fun k hk => by have := h.2 k (by omega); omega), Int.le_trans (PN_mono _ (by omega) (fun k hk => by have := h.2 k (by omega); omega)) h1.2.2.2.2⟩
def QOk (_ : Nat → Int) (n ck st wh rg : Int) (md wt num acc : Nat → Int) : Prop := (acc = acc) ∧ MOk n ck wh rg md wt num ∧ (0 ≤ st ∧ st ≤ 1)
theorem QOk.rm {s md wt num acc : Nat → Int} {n ck st wh rg : Int} (h : QOk s n ck st wh rg md wt num acc) : RM n ck md := by
  obtain ⟨h1, ⟨⟨h2, h3, h4⟩, h5, h6, h7, h8⟩, h9⟩ := h
  exact ⟨⟨h2.1, h2.2.1, h2.2.2.1, h2.2.2.2.1, by omega⟩, fun k hk => ⟨(h3 k hk).1, (h3 k hk).2.1⟩⟩
theorem QOk.cop {s md wt num acc : Nat → Int} {n ck st wh rg : Int} (h : QOk s n ck st wh rg md wt num acc) : Cop md n := h.2.1.2.2.2.2.1
theorem QOk.wh {s md wt num acc : Nat → Int} {n ck st wh rg : Int} (h : QOk s n ck st wh rg md wt num acc) : PN md n.toNat = wh := h.2.1.2.2.1.symm
theorem QOk.rg {s md wt num acc : Nat → Int} {n ck st wh rg : Int} (h : QOk s n ck st wh rg md wt num acc) : PN md (n - ck).toNat = rg := h.2.1.2.2.2.1.symm
theorem QOk.nin {s md wt num acc : Nat → Int} {n ck st wh rg : Int} (h : QOk s n ck st wh rg md wt num acc) {r : Nat} (hr : r < 8) : nin (num r) wh = num r := h.2.1.2.2.2.2.2.2 r hr
theorem QOk.mb {s md wt num acc : Nat → Int} {n ck st wh rg : Int} (h : QOk s n ck st wh rg md wt num acc) : MB n ck wh rg md wt num := h.2.1.1
theorem QOk.dvd {s md wt num acc : Nat → Int} {n ck st wh rg : Int} (h : QOk s n ck st wh rg md wt num acc) {k : Nat} (hk : (k : Int) < n) : md k ∣ wh := by
  rw [← h.wh]
  exact PN_dvd _ (by omega)
theorem MOk_put {n ck wh rg : Int} {md wt num : Nat → Int} {r : Nat} {x : Int} (h : MOk n ck wh rg md wt num) : MOk n ck wh rg md wt (upI num r (nin x wh)) := by
  obtain ⟨h1, h2, h3, h4, h5, h6, h7⟩ := h
  refine ⟨MB_put h1, h2, h3, h4, h5, h6, fun j hj => ?_⟩
  unfold upI
  split
  · exact nin_nin x wh
  · exact h7 j hj
theorem PN_others {md : Nat → Int} {k : Nat} {n : Nat} (hk : k < n) (hm : ∀ j, j < n → 1 ≤ md j) (hc : ∀ i j, i < j → j < n → Int.gcd (md i) (md j) = 1) : Int.gcd (PN md n / md k) (md k) = 1 := by
  have key : ∀ n, k < n → (∀ j, j < n → 1 ≤ md j) → (∀ i j, i < j → j < n → Int.gcd (md i) (md j) = 1) → Int.gcd (PN md n / md k) (md k) = 1 := by
    intro n
    induction n with
    | zero => intro h; omega
    | succ n ih =>
      intro h hm hc
      have hk0 := hm k (by omega)
      by_cases e : k = n
      · subst e
        show Int.gcd (PN md k * md k / md k) (md k) = 1
        rw [Int.mul_ediv_cancel _ (by omega)]
        exact cop_PN k (fun j hj => hc j k hj (by omega))
      · have h1 := ih (by omega) (fun j hj => hm j (by omega)) (fun i j a b => hc i j a (by omega))
        obtain ⟨c, hcc⟩ := PN_dvd (md := md) (k := k) n (by omega)
        have e1 : PN md n / md k = c := by
          rw [hcc]
          exact Int.mul_ediv_cancel_left _ (by omega)
        have e2 : PN md n * md n / md k = c * md n := by
          rw [hcc, Int.mul_assoc]
          exact Int.mul_ediv_cancel_left _ (by omega)
        show Int.gcd (PN md n * md n / md k) (md k) = 1
        rw [e2]
        rw [e1] at h1
        have h2 : Int.gcd (md n) (md k) = 1 := by
          rw [Int.gcd_comm]
          exact hc k n (by omega) (by omega)
        unfold Int.gcd at *
        rw [Int.natAbs_mul]
        exact Nat.Coprime.mul_left h1 h2
  exact key n hk hm hc
theorem QOk.oth {s md wt num acc : Nat → Int} {n ck st wh rg : Int} (h : QOk s n ck st wh rg md wt num acc) {k : Nat} (hk : (k : Int) < n) : Int.gcd (wh / md k) (md k) = 1 ∧ wh / md k * md k = wh ∧ 1 ≤ wh / md k := by
  have hm := h.rm
  obtain ⟨c, hc⟩ := h.dvd hk
  have hk2 := hm.2 k hk
  have hw := h.mb.1
  have e1 : wh / md k = c := by
    rw [hc]
    exact Int.mul_ediv_cancel_left _ (by omega)
  have e2 : wh / md k * md k = wh := by
    rw [e1, Int.mul_comm]
    exact hc.symm
  refine ⟨?_, e2, ?_⟩
  · rw [← h.wh]
    exact PN_others (by omega) (fun j hj => by have := hm.2 j (by omega); omega) (fun i j a b => h.cop i j a (by omega))
  · rcases Int.lt_trichotomy (wh / md k) 0 with h9 | h9 | h9
    · have := Int.mul_le_mul_of_nonneg_right (show wh / md k ≤ -1 by omega) (show 0 ≤ md k by omega)
      omega
    · rw [h9] at e2
      omega
    · omega
theorem QOk.wt {s md wt num acc : Nat → Int} {n ck st wh rg : Int} (h : QOk s n ck st wh rg md wt num acc) {k : Nat} (hk : (k : Int) < n) : ∃ r, 1 ≤ r ∧ r < md k ∧ wh / md k * r % md k = 1 ∧ (∀ j, 1 ≤ j → j < r → wh / md k * j % md k ≠ 1) ∧ wt k = wh / md k * r := by
  obtain ⟨r, hr, e⟩ := h.2.1.2.2.2.2.2.1 k hk
  have hk2 := h.rm.2 k hk
  obtain ⟨h1, h2, h3⟩ := h.oth hk
  rcases hr with ⟨a, b, c, d⟩ | ⟨a, b⟩
  · exact ⟨r, a, b, c, d, e⟩
  · obtain ⟨r2, c1, c2, c3⟩ := inv_ex (a := wh / md k) (m := md k) (by omega) (by omega) (by omega) h1
    exact absurd c3 (b r2 c1 c2)
theorem part_eq {o m x i : Int} (h : o * i % m = 1) : o * (x % m * i % m) % m = x % m := by
  have e1 : o * (x % m * i % m) % m = o * (x % m * i) % m := by
    rw [Int.mul_emod, Int.emod_emod, ← Int.mul_emod]
  have e2 : o * (x % m * i) = o * i * (x % m) := by rw [Int.mul_comm (x % m) i, Int.mul_assoc]
  rw [e1, e2, Int.mul_emod, h, Int.one_mul, Int.emod_emod, Int.emod_emod]
theorem part_ne {o m t u : Int} (hg : Int.gcd o m = 1) (h0 : 0 ≤ t) (h1 : t < u) (h2 : u < m) : o * t % m ≠ o * u % m := by
  intro h
  have h3 := mod_eq_dvd h.symm
  rw [← Int.mul_sub] at h3
  have := dvd_lt (cop_dvd hg h3) (by omega) (by omega)
  omega
theorem ptF_eq {wh m w o x i : Int} (hm : 0 < m) (ho : 0 < o) (e : o * m = wh) (hw : w = o * i) : x % m * w % wh = o * (x % m * i % m) := by
  rw [hw, ← e, show x % m * (o * i) = o * (x % m * i) by rw [Int.mul_left_comm], Int.mul_emod_mul_of_pos _ _ ho]
theorem oth_dvd {s md wt num acc : Nat → Int} {n ck st wh rg : Int} (h : QOk s n ck st wh rg md wt num acc) {j k : Nat} (hj : (j : Int) < n) (hk : (k : Int) < n) (hne : j ≠ k) : md j ∣ wh / md k := by
  obtain ⟨g1, g2, g3⟩ := h.oth hk
  refine cop_dvd (p := md k) ?_ ?_
  · rcases Nat.lt_or_gt_of_ne hne with h1 | h1
    · rw [Int.gcd_comm]
      exact h.cop j k h1 hk
    · exact h.cop k j h1 hj
  · rw [Int.mul_comm, g2]
    exact h.dvd hj
theorem nw_other {s md wt num acc : Nat → Int} {n ck st wh rg x v : Int} (h : QOk s n ck st wh rg md wt num acc) {j k : Nat} (hj : (j : Int) < n) (hk : (k : Int) < n) (hne : j ≠ k) : (x + (v - x % md k) * wt k) % md j = x % md j := by
  obtain ⟨r, -, -, -, -, e⟩ := h.wt hk
  obtain ⟨c, hc⟩ := oth_dvd h hj hk hne
  refine dvd_mod ⟨(v - x % md k) * (c * r), ?_⟩
  rw [e, hc]
  have : (v - x % md k) * (md j * c * r) = md j * ((v - x % md k) * (c * r)) := by
    rw [Int.mul_assoc (md j), Int.mul_left_comm]
  omega
theorem nw_own {s md wt num acc : Nat → Int} {n ck st wh rg x v : Int} (h : QOk s n ck st wh rg md wt num acc) {k : Nat} (hk : (k : Int) < n) (v0 : 0 ≤ v) (v1 : v < md k) : (x + (v - x % md k) * wt k) % md k = v := by
  obtain ⟨r, -, -, e1, -, e⟩ := h.wt hk
  have h1 := Int.mul_ediv_add_emod (wh / md k * r) (md k)
  have h2 := Int.mul_ediv_add_emod x (md k)
  have e2 : (x + (v - x % md k) * wt k) % md k = v % md k := by
    refine dvd_mod ⟨x / md k + (v - x % md k) * (wh / md k * r / md k), ?_⟩
    have e3 : wt k = md k * (wh / md k * r / md k) + 1 := by
      rw [e]
      omega
    have e4 : (v - x % md k) * wt k = md k * ((v - x % md k) * (wh / md k * r / md k)) + (v - x % md k) := by
      rw [e3, Int.mul_add, Int.mul_one, Int.mul_left_comm]
    rw [Int.mul_add, e4]
    omega
  rw [e2]
  exact Int.emod_eq_of_lt v0 v1
theorem QOk.n6 {s md wt num acc : Nat → Int} {n ck st wh rg : Int} (h : QOk s n ck st wh rg md wt num acc) : 0 ≤ n ∧ n ≤ 6 := ⟨h.2.1.1.1.1, h.2.1.1.1.2.1⟩
theorem QOk.n2 {s md wt num acc : Nat → Int} {n ck st wh rg : Int} (h : QOk s n ck st wh rg md wt num acc) : 2 ≤ n := h.2.1.2.1
theorem nin_fix {x w : Int} (h : 0 < w) : nin x w = x ↔ (w - 1) / 2 + 1 - w ≤ x ∧ x ≤ (w - 1) / 2 := by
  constructor
  · intro e
    have := nin_r (x := x) h
    rw [e] at this
    exact this
  · exact fun e => nin_id e.1 e.2
theorem InvOf.eq {x m r r' : Int} (h : InvOf x m r) (h' : InvOf x m r') : r = r' := by
  rcases h with ⟨a1, a2, a3, a4⟩ | ⟨a1, a2⟩
  · rcases h' with ⟨b1, b2, b3, b4⟩ | ⟨b1, b2⟩
    · rcases Int.lt_trichotomy r r' with h9 | h9 | h9
      · exact absurd a3 (b4 r a1 h9)
      · exact h9
      · exact absurd b3 (a4 r' b1 h9)
    · exact absurd a3 (b2 r a1 a2)
  · rcases h' with ⟨b1, b2, b3, b4⟩ | ⟨b1, b2⟩
    · exact absurd b3 (a2 r' b1 b2)
    · omega
def cntF (n ck st pm rg : Int) (num : Nat → Int) (x : Int) : Int := if x = 0 then n else if x = 1 then ck else if x = 2 then st else if x = 3 then cnt (fun r => fitB rg (num r)) 8 else if x = 4 then cnt (fun r => cmpI (num r) 0 == 0) 8 else if x = 5 then cnt (fun r => cmpI (num r) 0 == -1) 8 else pm
def bndF (wh rg x : Int) : Int := if x = 0 then rg else if x = 1 then wh else (rg - 1) / 2
theorem dgL_eq {md : Nat → Int} {v : Int} : ∀ (k : Nat), (∀ j, j < k → 1 ≤ md j) → dgL md v k = v / PN md k
  | 0, _ => by simp [dgL, PN]
  | k + 1, h => by
    have h1 := PN_pos (md := md) k (fun j hj => h j (by omega))
    show dgL md v k / md k = v / (PN md k * md k)
    rw [dgL_eq k (fun j hj => h j (by omega)), Int.ediv_ediv_of_nonneg (by omega)]
theorem pt_own {s md wt num acc : Nat → Int} {n ck st wh rg x : Int} (h : QOk s n ck st wh rg md wt num acc) {k : Nat} (hk : (k : Int) < n) : ptF wh md wt x k % md k = x % md k := by
  obtain ⟨r, -, -, e1, -, e⟩ := h.wt hk
  unfold ptF
  rw [Int.emod_emod_of_dvd _ (h.dvd hk), Int.mul_emod, e, e1, Int.mul_one, Int.emod_emod, Int.emod_emod]
theorem pt_other {s md wt num acc : Nat → Int} {n ck st wh rg x : Int} (h : QOk s n ck st wh rg md wt num acc) {j k : Nat} (hj : (j : Int) < n) (hk : (k : Int) < n) (hne : j ≠ k) : ptF wh md wt x k % md j = 0 := by
  obtain ⟨r, -, -, -, -, e⟩ := h.wt hk
  obtain ⟨c, hc⟩ := oth_dvd h hj hk hne
  unfold ptF
  rw [Int.emod_emod_of_dvd _ (h.dvd hj), e, hc]
  refine Int.emod_eq_zero_of_dvd ⟨x % md k * (c * r), ?_⟩
  rw [Int.mul_assoc (md j), Int.mul_left_comm]
theorem sm_mod {s md wt num acc : Nat → Int} {n ck st wh rg x : Int} (h : QOk s n ck st wh rg md wt num acc) {j : Nat} (hj : (j : Int) < n) : ∀ i : Nat, (i : Int) ≤ n → smP (ptF wh md wt x) i % md j = if j < i then x % md j else 0
  | 0, _ => by simp [smP]
  | i + 1, hi => by
    have ih := sm_mod h hj (x := x) i (by omega)
    show (smP (ptF wh md wt x) i + ptF wh md wt x i) % md j = _
    rw [Int.add_emod, ih]
    by_cases e : j = i
    · subst e
      rw [pt_own h hj, if_neg (by omega), if_pos (by omega), Int.zero_add, Int.emod_emod]
    · rw [pt_other h hj (by omega) e, Int.add_zero]
      by_cases e2 : j < i
      · rw [if_pos e2, if_pos (by omega), Int.emod_emod]
      · rw [if_neg e2, if_neg (by omega), Int.zero_emod]
theorem sm_all {s md wt num acc : Nat → Int} {n ck st wh rg x : Int} (h : QOk s n ck st wh rg md wt num acc) : smP (ptF wh md wt x) n.toNat % wh = x % wh := by
  have h6 := h.n6
  have h1 : PN md n.toNat ∣ smP (ptF wh md wt x) n.toNat - x := by
    refine dvd_PN n.toNat (fun j k a b => h.cop j k a (by omega)) (fun k hk => mod_eq_dvd ?_)
    rw [sm_mod h (by omega) _ (by omega), if_pos hk]
  rw [h.wh] at h1
  exact dvd_mod h1
theorem pt_b {s md wt num acc : Nat → Int} {n ck st wh rg x : Int} (h : QOk s n ck st wh rg md wt num acc) (k : Nat) : 0 ≤ ptF wh md wt x k ∧ ptF wh md wt x k ≤ 1000000000 := by
  have hw := h.mb.1
  unfold ptF
  have e1 := Int.emod_nonneg (x % md k * wt k) (b := wh) (by omega)
  have e2 := Int.emod_lt_of_pos (x % md k * wt k) (show 0 < wh by omega)
  omega
theorem sm_b {s md wt num acc : Nat → Int} {n ck st wh rg x : Int} (h : QOk s n ck st wh rg md wt num acc) : ∀ i : Nat, 0 ≤ smP (ptF wh md wt x) i ∧ smP (ptF wh md wt x) i ≤ 1000000000 * i
  | 0 => by simp [smP]
  | i + 1 => by
    have ih := sm_b h (x := x) i
    have := pt_b h (x := x) i
    show 0 ≤ smP (ptF wh md wt x) i + ptF wh md wt x i ∧ smP (ptF wh md wt x) i + ptF wh md wt x i ≤ _
    omega
def whyF (st rg wh x a b : Int) : Int := if rsF st rg wh x a b = 0 then (if nin (exF x a b) wh = exF x a b then 0 else 6) else rsF st rg wh x a b
def fltF (n wh rg : Int) (md wt : Nat → Int) (x : Int) : Int32 := if fitB rg x = true then iI 0 else bitS (fltB wh rg md wt x) n.toNat
def NmP (md : Nat → Int) (n wh v : Int) : Prop := (2 ≤ v ∧ v ≤ 97 ∧ takeP md n wh v ∧ ∀ j, 2 ≤ j → j < v → ¬ takeP md n wh j) ∨ (v = -1 ∧ ∀ j, 2 ≤ j → j ≤ 97 → ¬ takeP md n wh j)
theorem NmP.eq {md : Nat → Int} {n wh v v' : Int} (h : NmP md n wh v) (h' : NmP md n wh v') : v = v' := by
  rcases h with ⟨a1, a2, a3, a4⟩ | ⟨a1, a2⟩
  · rcases h' with ⟨b1, b2, b3, b4⟩ | ⟨b1, b2⟩
    · rcases Int.lt_trichotomy v v' with h9 | h9 | h9
      · exact absurd a3 (b4 v a1 h9)
      · exact h9
      · exact absurd b3 (a4 v' b1 h9)
    · exact absurd a3 (b2 v a1 a2)
  · rcases h' with ⟨b1, b2, b3, b4⟩ | ⟨b1, b2⟩
    · exact absurd b3 (a2 v' b1 b2)
    · omega
def dropB (n ck wh : Int) (md num : Nat → Int) (k : Nat) : Bool := decide (2 < n) && (!(decide (n - ck = 1) && k == 0) && (List.range 8).all (fun r => nin (num r) (wh / md k) == num r))
theorem dropB_t {n ck wh : Int} {md num : Nat → Int} {k : Nat} : dropB n ck wh md num k = true ↔ dropP n ck wh md num (k : Int) := by
  unfold dropB dropP
  rw [Bool.and_eq_true, Bool.and_eq_true, decide_eq_true_eq, List.all_eq_true]
  refine ⟨fun ⟨a, b, c⟩ => ⟨a, ?_, fun r hr => ?_⟩, fun ⟨a, b, c⟩ => ⟨a, ?_, fun r hr => ?_⟩⟩
  · simp at b
    omega
  · have := c r (List.mem_range.mpr hr)
    simpa using this
  · simp
    omega
  · have := c r (List.mem_range.mp hr)
    simpa using this
abbrev MS : Type := (Int × Int × Int × Int × Int) × (Nat → Int) × (Nat → Int) × (Nat → Int) × (Nat → Int)
def mkM (n ck st wh rg : Int) (md wt num acc : Nat → Int) : MS := ((n, ck, st, wh, rg), md, wt, num, acc)
def kpN (pm : Int) : Int := if pm = 8 then 8 else pm + 1
theorem insF_at {p n m : Int} {md md' : Nat → Int} (p0 : 0 ≤ p) (pn : p ≤ n) (e : ∀ k : Nat, (k : Int) < n → md k = md' k) {k : Nat} (hk : (k : Int) < n + 1) : insF p n m md k = insF p n m md' k := by
  unfold insF upI shF
  by_cases h : k = p.toNat
  · rw [if_pos h, if_pos h]
  · rw [if_neg h, if_neg h]
    by_cases h2 : p < (k : Int) ∧ (k : Int) ≤ n
    · rw [if_pos h2, if_pos h2]
      exact e _ (by omega)
    · rw [if_neg h2, if_neg h2]
      exact e _ (by omega)
theorem delF_at {a n : Int} {md md' : Nat → Int} (a0 : 0 ≤ a) (e : ∀ k : Nat, (k : Int) < n → md k = md' k) {k : Nat} (hk : (k : Int) < n - 1) : delF (n - 1) a n md k = delF (n - 1) a n md' k := by
  unfold delF
  by_cases h : a ≤ (k : Int) ∧ (k : Int) < n - 1
  · rw [if_pos h, if_pos h]
    exact e _ (by omega)
  · rw [if_neg h, if_neg h]
    exact e _ (by omega)
theorem rsF_b {st rg wh o a b : Int} : 0 ≤ rsF st rg wh o a b ∧ rsF st rg wh o a b ≤ 2 := by
  unfold rsF
  (repeat' split) <;> omega
