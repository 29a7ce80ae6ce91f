/-! THE LAW: what holds between calls, after an act that was done, that was refused -/
theorem kpN_b {cz : Int} (h : 0 ≤ cz ∧ cz ≤ 8) : 0 ≤ kpN cz ∧ kpN cz ≤ 8 := by
  unfold kpN
  split <;> omega
theorem LI.keep {il hs nx cz cn ol : Int} {m m' m3 : MS} {rf : Nat → Option Nat} {sl : Nat → MS} {sv : Nat} {b9 : va_E} {s s' kp ps ps' ou : Nat → Int} {ex : PW} (H : LI il m m3 hs nx cz rf sl sv cn b9 s kp ps ou ol ex) (hq : QM s' m') (hp : HP ps' (kpN cz) (kpH (rgH sl nx cz) cz m)) : LI il m' m3 hs ((nx + 1) % 9) (kpN cz) rf (sput sl nx.toNat (cpM m (sl nx.toNat))) sv cn b9 s' kp ps' ou ol ex := by
  obtain ⟨⟨hr, n0, c0, hl⟩, -, -, hk, hO⟩ := H
  exact ⟨⟨hr, by omega, kpN_b c0, hl⟩, hq, HP_kept9 n0 c0 hp, hk, hO⟩
theorem LI.refd {il hs nx cz cn ol : Int} {m m' m3 o : MS} {rf : Nat → Option Nat} {sl : Nat → MS} {sv : Nat} {b9 : va_E} {s s' kp ps ps' ou : Nat → Int} {ex : PW} (H : LI il m m3 hs nx cz rf sl sv cn b9 s kp ps ou ol ex) (hq : QM s' m') (hp : HP ps' cz (rgH sl nx cz)) : LI il m' m3 hs nx cz rf (sput sl nx.toNat o) sv cn b9 s' kp ps' ou ol ex := by
  obtain ⟨⟨hr, n0, c0, hl⟩, -, -, hk, hO⟩ := H
  exact ⟨⟨hr, n0, c0, hl⟩, hq, HP_put n0 hp, hk, hO⟩
