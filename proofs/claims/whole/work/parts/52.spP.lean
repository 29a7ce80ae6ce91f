/-! SCRIPTS, as functions: what a sum comes to as steps of the class and as steps of the reference -/
abbrev E9 : Type := List (Int × Int × Int) × List (Int × Int)
abbrev S9 : Type := (Int × Int × Int) × E9
def opM (k : Int) : Int := if k = 42 then 2 else if k = 47 then 3 else 4
def opS (k : Int) : Int := if k = 43 then 0 else 1
def binE (o : Int) (a b : E9) : E9 := (a.1 ++ b.1 ++ [(2, o, 0)], a.2 ++ b.2 ++ [(o, 0)])
def negE (a : E9) : E9 := ((0, 0, 0) :: (a.1 ++ [(2, 1, 0)]), a.2 ++ [(7, 0)])
def numE (z : Int) : E9 := ([(0, z, 0)], [(5, z)])
def regE (r : Int) : E9 := ([(1, r, 0)], [(6, r)])
def prL (b : Nat → Int) (n : Int) (F : Int → Sum EE9 (E9 × Int)) : Nat → E9 → Int → Sum EE9 (E9 × Int)
  | 0, a, p => .inr (a, p)
  | q + 1, a, p => if kd b n p = 42 ∨ kd b n p = 47 ∨ kd b n p = 37 then bnE (F (nx b n p)) (fun v => prL b n F q (binE (opM (kd b n p)) a v.1) v.2) else .inr (a, p)
def prE (b : Nat → Int) (n : Int) (F : Int → Sum EE9 (E9 × Int)) (p : Int) : Sum EE9 (E9 × Int) := bnE (F p) (fun v => prL b n F 500 v.1 v.2)
def suL (b : Nat → Int) (n : Int) (F : Int → Sum EE9 (E9 × Int)) : Nat → E9 → Int → Sum EE9 (E9 × Int)
  | 0, a, p => .inr (a, p)
  | q + 1, a, p => if kd b n p = 43 ∨ kd b n p = 45 then bnE (prE b n F (nx b n p)) (fun v => suL b n F q (binE (opS (kd b n p)) a v.1) v.2) else .inr (a, p)
def suE (b : Nat → Int) (n : Int) (F : Int → Sum EE9 (E9 × Int)) (p : Int) : Sum EE9 (E9 × Int) := bnE (prE b n F p) (fun v => suL b n F 500 v.1 v.2)
def fcE (b : Nat → Int) (n h : Int) : Nat → Int → Sum EE9 (E9 × Int)
  | 0, p => if kd b n p = 258 then (if amt b n p ≤ h then .inr (numE (amt b n p), nx b n p) else .inl (2, p)) else if kd b n p = 259 then .inr (regE (amt b n p), nx b n p) else if kd b n p = 40 ∨ kd b n p = 45 then .inl (5, p) else .inl (1, p)
  | o + 1, p => if kd b n p = 258 then (if amt b n p ≤ h then .inr (numE (amt b n p), nx b n p) else .inl (2, p)) else if kd b n p = 259 then .inr (regE (amt b n p), nx b n p) else if kd b n p = 40 then bnE (suE b n (fcE b n h o) (nx b n p)) (fun v => bnE (tkE b n 41 v.2) (fun p2 => .inr (v.1, p2))) else if kd b n p = 45 then bnE (fcE b n h o (nx b n p)) (fun v => .inr (negE v.1, v.2)) else .inl (1, p)
def rgE (b : Nat → Int) (n p : Int) : Sum EE9 (Int × Int) := if kd b n p = 259 then .inr (amt b n p, nx b n p) else .inl (1, p)
def stmE (b : Nat → Int) (n c h p : Int) : Sum EE9 (S9 × Int) :=
  if kd b n p = 259 then bnE (tkE b n 61 (nx b n p)) (fun p1 => bnE (suE b n (fcE b n h 6) p1) (fun v => .inr (((0, amt b n p, 0), v.1), v.2)))
  else if kd b n p = 262 then bnE (upE b n 1 (nx b n p)) (fun v => .inr (((4, v.1, 0), ([], [])), v.2))
  else if kd b n p = 264 then bnE (rgE b n (nx b n p)) (fun r => bnE (upE b n (c - 1) r.2) (fun v => .inr (((1, r.1, v.1), ([], [])), v.2)))
  else if kd b n p = 265 then bnE (rgE b n (nx b n p)) (fun r => bnE (rgE b n r.2) (fun v => .inr (((2, r.1, v.1), ([], [])), v.2)))
  else if kd b n p = 266 then bnE (rgE b n (nx b n p)) (fun r => .inr (((3, r.1, 0), ([], [])), r.2))
  else .inl (1, p)
def scE (b : Nat → Int) (n c h : Int) : Nat → List S9 → Int → Sum EE9 (List S9)
  | 0, l, p => if kd b n p = 256 then .inr l else if kd b n p = 259 ∨ 264 ≤ kd b n p ∨ kd b n p = 262 then .inl (5, p) else .inl (1, p)
  | q + 1, l, p => if kd b n p = 256 then .inr l else bnE (stmE b n c h p) (fun v => bnE (tkE b n 59 v.2) (fun p2 => scE b n c h q (l ++ [v.1]) p2))
def stC (s : S9) : List (Int × Int × Int) := s.2.1 ++ [(s.1.1 + 3, s.1.2.1, s.1.2.2)]
def stsC (l : List S9) : List (Int × Int × Int) := l.flatMap stC
def stsM (l : List S9) : List (Int × Int) := l.flatMap (fun s => s.2.2)
theorem stsC_add (l : List S9) (s : S9) : stsC (l ++ [s]) = stsC l ++ stC s := by
  unfold stsC
  rw [List.flatMap_append]
  simp
theorem stsM_add (l : List S9) (s : S9) : stsM (l ++ [s]) = stsM l ++ s.2.2 := by
  unfold stsM
  rw [List.flatMap_append]
  simp
/-! what the steps come to: a row of NUMBERs, or a reason; none: they don't fit -/
abbrev SR9 : Type := Option (Sum Int (List Int))
def pushS (wh z : Int) (σ : List Int) : SR9 := if σ.length < 32 ∧ nin z wh = z then some (.inr (z :: σ)) else none
def calcS (st rg wh o : Int) : List Int → SR9
  | b :: a :: σ => if rsF st rg wh o a b = 0 then some (.inr (nin (exF o a b) wh :: σ)) else some (.inl (rsF st rg wh o a b))
  | _ => none
def stpC (st rg wh : Int) (num : Nat → Int) (x : Int × Int × Int) (σ : List Int) : SR9 := if x.1 = 0 then pushS wh x.2.1 σ else if x.1 = 1 ∧ 0 ≤ x.2.1 ∧ x.2.1 < 8 then pushS wh (num x.2.1.toNat) σ else if x.1 = 2 ∧ 0 ≤ x.2.1 ∧ x.2.1 ≤ 4 then calcS st rg wh x.2.1 σ else none
def stpM (st rg wh : Int) (num : Nat → Int) (x : Int × Int) (σ : List Int) : SR9 := if x.1 = 5 then pushS wh x.2 σ else if x.1 = 6 ∧ 0 ≤ x.2 ∧ x.2 < 8 then pushS wh (num x.2.toNat) σ else if x.1 = 7 then (if σ.length < 32 then (match σ with
    | b :: τ => calcS st rg wh 1 (b :: 0 :: τ)
    | [] => none) else none) else if 0 ≤ x.1 ∧ x.1 ≤ 4 then calcS st rg wh x.1 σ else none
def bnS (x : SR9) (g : List Int → SR9) : SR9 := match x with
  | none => none
  | some (.inl w) => some (.inl w)
  | some (.inr σ) => g σ
def evC (st rg wh : Int) (num : Nat → Int) : List (Int × Int × Int) → List Int → SR9
  | [], σ => some (.inr σ)
  | x :: L, σ => bnS (stpC st rg wh num x σ) (evC st rg wh num L)
def evM (st rg wh : Int) (num : Nat → Int) : List (Int × Int) → List Int → SR9
  | [], σ => some (.inr σ)
  | x :: L, σ => bnS (stpM st rg wh num x σ) (evM st rg wh num L)
theorem bnS_a {x : SR9} {g k : List Int → SR9} : bnS (bnS x g) k = bnS x (fun σ => bnS (g σ) k) := by
  rcases x with _ | _ | _ <;> rfl
theorem evC_app {st rg wh : Int} {num : Nat → Int} {L2 : List (Int × Int × Int)} : ∀ (L1 : List (Int × Int × Int)) (σ : List Int), evC st rg wh num (L1 ++ L2) σ = bnS (evC st rg wh num L1 σ) (evC st rg wh num L2)
  | [], _ => rfl
  | x :: L, σ => by
    show bnS (stpC st rg wh num x σ) (evC st rg wh num (L ++ L2)) = bnS (bnS (stpC st rg wh num x σ) (evC st rg wh num L)) (evC st rg wh num L2)
    rw [bnS_a]
    congr 1
    funext τ
    exact evC_app L τ
theorem evM_app {st rg wh : Int} {num : Nat → Int} {L2 : List (Int × Int)} : ∀ (L1 : List (Int × Int)) (σ : List Int), evM st rg wh num (L1 ++ L2) σ = bnS (evM st rg wh num L1 σ) (evM st rg wh num L2)
  | [], _ => rfl
  | x :: L, σ => by
    show bnS (stpM st rg wh num x σ) (evM st rg wh num (L ++ L2)) = bnS (bnS (stpM st rg wh num x σ) (evM st rg wh num L)) (evM st rg wh num L2)
    rw [bnS_a]
    congr 1
    funext τ
    exact evM_app L τ
def vS (v : Sum Int Int) (σ : List Int) : Sum Int (List Int) := match v with
  | .inl w => .inl w
  | .inr x => .inr (x :: σ)
/-- both come to the same one NUMBER more, or the same reason -/
def EV (h : Int) (D : Nat) (a : E9) : Prop := ∀ (st rg wh : Int) (num : Nat → Int), 1 ≤ wh → rg ≤ wh → (rg - 1) / 2 = h → (∀ r : Nat, r < 8 → nin (num r) wh = num r) → ∃ v : Sum Int Int, ∀ σ : List Int, σ.length + D ≤ 32 → evC st rg wh num a.1 σ = some (vS v σ) ∧ evM st rg wh num a.2 σ = some (vS v σ)
theorem EV.mono {h : Int} {D D' : Nat} {a : E9} (H : EV h D a) (hd : D ≤ D') : EV h D' a := by
  intro st rg wh num h1 h2 h3 h4
  obtain ⟨v, hv⟩ := H st rg wh num h1 h2 h3 h4
  exact ⟨v, fun σ hσ => hv σ (by omega)⟩
theorem pushS_ok {wh z : Int} {σ : List Int} (h1 : σ.length < 32) (h2 : nin z wh = z) : pushS wh z σ = some (.inr (z :: σ)) := if_pos ⟨h1, h2⟩
theorem EV.num {h z : Int} (z0 : 0 ≤ z) (zh : z ≤ h) : EV h 1 (numE z) := by
  intro st rg wh num h1 h2 h3 h4
  refine ⟨.inr z, fun σ hσ => ?_⟩
  have e : pushS wh z σ = some (.inr (z :: σ)) := pushS_ok (by omega) (nin_id (by omega) (by omega))
  constructor
  · show bnS (pushS wh z σ) _ = _
    rw [e]
    rfl
  · show bnS (pushS wh z σ) _ = _
    rw [e]
    rfl
theorem EV.reg {h r : Int} (r0 : 0 ≤ r) (r8 : r < 8) : EV h 1 (regE r) := by
  intro st rg wh num h1 h2 h3 h4
  refine ⟨.inr (num r.toNat), fun σ hσ => ?_⟩
  have e : pushS wh (num r.toNat) σ = some (.inr (num r.toNat :: σ)) := pushS_ok (by omega) (h4 _ (by omega))
  constructor
  · have e2 : stpC st rg wh num (1, r, 0) σ = pushS wh (num r.toNat) σ := by
      unfold stpC
      rw [if_neg (show ¬ (1 : Int) = 0 by decide), if_pos ⟨rfl, r0, r8⟩]
    show bnS (stpC st rg wh num (1, r, 0) σ) _ = _
    rw [e2, e]
    rfl
  · have e2 : stpM st rg wh num (6, r) σ = pushS wh (num r.toNat) σ := by
      unfold stpM
      rw [if_neg (show ¬ (6 : Int) = 5 by decide), if_pos ⟨rfl, r0, r8⟩]
    show bnS (stpM st rg wh num (6, r) σ) _ = _
    rw [e2, e]
    rfl
def cvS (st rg wh o a b : Int) : Sum Int Int := if rsF st rg wh o a b = 0 then .inr (nin (exF o a b) wh) else .inl (rsF st rg wh o a b)
theorem calcS_c {st rg wh o a b : Int} {σ : List Int} : calcS st rg wh o (b :: a :: σ) = some (vS (cvS st rg wh o a b) σ) := by
  unfold cvS
  show (if rsF st rg wh o a b = 0 then _ else _) = _
  split <;> rfl
theorem stpC_2 {st rg wh o : Int} {num : Nat → Int} {σ : List Int} (o0 : 0 ≤ o) (o4 : o ≤ 4) : stpC st rg wh num (2, o, 0) σ = calcS st rg wh o σ := by
  unfold stpC
  rw [if_neg (show ¬ (2 : Int) = 0 by decide), if_neg (fun h => absurd h.1 (show ¬ (2 : Int) = 1 by decide)), if_pos ⟨rfl, o0, o4⟩]
theorem stpM_o {st rg wh o y : Int} {num : Nat → Int} {σ : List Int} (o0 : 0 ≤ o) (o4 : o ≤ 4) : stpM st rg wh num (o, y) σ = calcS st rg wh o σ := by
  unfold stpM
  rw [if_neg (by show ¬ o = 5; omega), if_neg (by show ¬ (o = 6 ∧ _); omega), if_neg (by show ¬ o = 7; omega), if_pos ⟨o0, o4⟩]
theorem EV.bin {h o : Int} {D : Nat} {a b : E9} (o0 : 0 ≤ o) (o4 : o ≤ 4) (ha : EV h (D + 1) a) (hb : EV h D b) : EV h (D + 1) (binE o a b) := by
  intro st rg wh num h1 h2 h3 h4
  obtain ⟨va, ha⟩ := ha st rg wh num h1 h2 h3 h4
  obtain ⟨vb, hb⟩ := hb st rg wh num h1 h2 h3 h4
  rcases va with w | x
  · refine ⟨.inl w, fun σ hσ => ?_⟩
    obtain ⟨a1, a2⟩ := ha σ hσ
    constructor
    · show evC st rg wh num (a.1 ++ b.1 ++ [(2, o, 0)]) σ = _
      rw [evC_app, evC_app, a1]
      rfl
    · show evM st rg wh num (a.2 ++ b.2 ++ [(o, 0)]) σ = _
      rw [evM_app, evM_app, a2]
      rfl
  · rcases vb with w | y
    · refine ⟨.inl w, fun σ hσ => ?_⟩
      obtain ⟨a1, a2⟩ := ha σ hσ
      obtain ⟨b1, b2⟩ := hb (x :: σ) (by rw [List.length_cons]; omega)
      constructor
      · show evC st rg wh num (a.1 ++ b.1 ++ [(2, o, 0)]) σ = _
        rw [evC_app, evC_app, a1]
        show bnS (evC st rg wh num b.1 (x :: σ)) _ = _
        rw [b1]
        rfl
      · show evM st rg wh num (a.2 ++ b.2 ++ [(o, 0)]) σ = _
        rw [evM_app, evM_app, a2]
        show bnS (evM st rg wh num b.2 (x :: σ)) _ = _
        rw [b2]
        rfl
    · refine ⟨cvS st rg wh o x y, fun σ hσ => ?_⟩
      obtain ⟨a1, a2⟩ := ha σ hσ
      obtain ⟨b1, b2⟩ := hb (x :: σ) (by rw [List.length_cons]; omega)
      constructor
      · show evC st rg wh num (a.1 ++ b.1 ++ [(2, o, 0)]) σ = _
        rw [evC_app, evC_app, a1]
        show bnS (evC st rg wh num b.1 (x :: σ)) _ = _
        rw [b1]
        show bnS (stpC st rg wh num (2, o, 0) (y :: x :: σ)) _ = _
        rw [stpC_2 o0 o4, calcS_c]
        unfold cvS
        split <;> rfl
      · show evM st rg wh num (a.2 ++ b.2 ++ [(o, 0)]) σ = _
        rw [evM_app, evM_app, a2]
        show bnS (evM st rg wh num b.2 (x :: σ)) _ = _
        rw [b2]
        show bnS (stpM st rg wh num (o, 0) (y :: x :: σ)) _ = _
        rw [stpM_o o0 o4, calcS_c]
        unfold cvS
        split <;> rfl
theorem EV.neg {h : Int} {D : Nat} {a : E9} (hD : 1 ≤ D) (ha : EV h D a) : EV h (D + 1) (negE a) := by
  intro st rg wh num h1 h2 h3 h4
  obtain ⟨va, ha⟩ := ha st rg wh num h1 h2 h3 h4
  have e0 : ∀ σ : List Int, σ.length + (D + 1) ≤ 32 → pushS wh 0 σ = some (.inr (0 :: σ)) := fun σ hσ => pushS_ok (by omega) (nin_id (by omega) (by omega))
  rcases va with w | x
  · refine ⟨.inl w, fun σ hσ => ?_⟩
    obtain ⟨a1, -⟩ := ha (0 :: σ) (by rw [List.length_cons]; omega)
    obtain ⟨-, a2⟩ := ha σ (by omega)
    constructor
    · show bnS (pushS wh 0 σ) (evC st rg wh num (a.1 ++ [(2, 1, 0)])) = _
      rw [e0 σ hσ]
      show evC st rg wh num (a.1 ++ [(2, 1, 0)]) (0 :: σ) = _
      rw [evC_app, a1]
      rfl
    · show evM st rg wh num (a.2 ++ [(7, 0)]) σ = _
      rw [evM_app, a2]
      rfl
  · refine ⟨cvS st rg wh 1 0 x, fun σ hσ => ?_⟩
    obtain ⟨a1, -⟩ := ha (0 :: σ) (by rw [List.length_cons]; omega)
    obtain ⟨-, a2⟩ := ha σ (by omega)
    constructor
    · show bnS (pushS wh 0 σ) (evC st rg wh num (a.1 ++ [(2, 1, 0)])) = _
      rw [e0 σ hσ]
      show evC st rg wh num (a.1 ++ [(2, 1, 0)]) (0 :: σ) = _
      rw [evC_app, a1]
      show bnS (stpC st rg wh num (2, 1, 0) (x :: 0 :: σ)) _ = _
      rw [stpC_2 (by decide) (by decide), calcS_c]
      unfold cvS
      split <;> rfl
    · have e2 : stpM st rg wh num (7, 0) (x :: σ) = calcS st rg wh 1 (x :: 0 :: σ) := by
        by_cases hl : (x :: σ).length < 32
        · unfold stpM
          rw [if_neg (show ¬ (7 : Int) = 5 by decide), if_neg (fun h => absurd h.1 (show ¬ (7 : Int) = 6 by decide)), if_pos rfl, if_pos hl]
        · rw [List.length_cons] at hl
          omega
      show evM st rg wh num (a.2 ++ [(7, 0)]) σ = _
      rw [evM_app, a2]
      show bnS (stpM st rg wh num (7, 0) (x :: σ)) _ = _
      rw [e2, calcS_c]
      unfold cvS
      split <;> rfl
/-! what is read is right: where it ends, how long it is, what it comes to -/
def OE (n h : Int) (D : Nat) (p0 : Int) (v : E9 × Int) : Prop := (p0 < v.2 ∧ v.2 ≤ n) ∧ ((v.1.1.length : Int) ≤ 2 * (v.2 - p0) ∧ (v.1.2.length : Int) ≤ v.2 - p0) ∧ EV h D v.1
def GF (n h : Int) (D : Nat) (F : Int → Sum EE9 (E9 × Int)) : Prop := ∀ p v, 0 ≤ p → p ≤ n → F p = .inr v → OE n h D p v
theorem bnE_ok {α β : Type} {x : Sum EE9 α} {g : α → Sum EE9 β} {v : β} (h : bnE x g = .inr v) : ∃ a, x = .inr a ∧ g a = .inr v := by
  cases x with
  | inl e => cases h
  | inr a => exact ⟨a, rfl, h⟩
theorem nx_lt {b : Nat → Int} {n p : Int} (hp : p ≤ n) (h : kd b n p ≠ 256) : p < nx b n p ∧ nx b n p ≤ n := by
  have h1 := nx_b (b := b) hp
  by_cases e : p = n
  · subst e
    exact absurd kd_end h
  · exact ⟨h1.2.2 (by omega), h1.2.1⟩
theorem OE.bin {n h o p0 p : Int} {D : Nat} {a : E9} {v : E9 × Int} (o0 : 0 ≤ o) (o4 : o ≤ 4) {q : Int} (hq : p < q) (h1 : OE n h (D + 1) p0 (a, p)) (h2 : OE n h D q v) : OE n h (D + 1) p0 (binE o a v.1, v.2) := by
  obtain ⟨⟨a1, a2⟩, ⟨a3, a4⟩, a5⟩ := h1
  obtain ⟨⟨b1, b2⟩, ⟨b3, b4⟩, b5⟩ := h2
  simp only at a1 a2 a3 a4
  refine ⟨⟨by show p0 < v.2; omega, b2⟩, ⟨?_, ?_⟩, EV.bin o0 o4 a5 b5⟩
  · show (((a.1 ++ v.1.1 ++ [(2, o, 0)]).length : Nat) : Int) ≤ 2 * (v.2 - p0)
    rw [List.length_append, List.length_append, List.length_singleton]
    omega
  · show (((a.2 ++ v.1.2 ++ [(o, 0)]).length : Nat) : Int) ≤ v.2 - p0
    rw [List.length_append, List.length_append, List.length_singleton]
    omega
theorem opM_b {k : Int} : 0 ≤ opM k ∧ opM k ≤ 4 := by
  unfold opM
  (repeat' split) <;> omega
theorem opS_b {k : Int} : 0 ≤ opS k ∧ opS k ≤ 4 := by
  unfold opS
  (repeat' split) <;> omega
theorem prL_ok {b : Nat → Int} {n h : Int} {D : Nat} {F : Int → Sum EE9 (E9 × Int)} (hF : GF n h D F) (p0 : Int) (hp0 : 0 ≤ p0) : ∀ (q : Nat) (a : E9) (p : Int) (v : E9 × Int), OE n h (D + 1) p0 (a, p) → prL b n F q a p = .inr v → OE n h (D + 1) p0 v
  | 0, a, p, v, ho, hv => by
    cases hv
    exact ho
  | q + 1, a, p, v, ho, hv => by
    have hpb := ho.1
    simp only at hpb
    have hv' : (if kd b n p = 42 ∨ kd b n p = 47 ∨ kd b n p = 37 then bnE (F (nx b n p)) (fun v => prL b n F q (binE (opM (kd b n p)) a v.1) v.2) else .inr (a, p)) = .inr v := hv
    split at hv'
    · next hk =>
      have hn := nx_lt (b := b) (n := n) (p := p) hpb.2 (by omega)
      obtain ⟨e, he, hv2⟩ := bnE_ok hv'
      have h2 := hF _ e (by omega) hn.2 he
      exact prL_ok hF p0 hp0 q _ _ v (OE.bin opM_b.1 opM_b.2 hn.1 ho h2) hv2
    · cases hv'
      exact ho
theorem GF.pr {b : Nat → Int} {n h : Int} {D : Nat} {F : Int → Sum EE9 (E9 × Int)} (hF : GF n h D F) : GF n h (D + 1) (prE b n F) := by
  intro p v p0 pn hv
  obtain ⟨e, he, hv2⟩ := bnE_ok hv
  have h1 := hF p e p0 pn he
  exact prL_ok hF p p0 500 e.1 e.2 v ⟨h1.1, h1.2.1, h1.2.2.mono (by omega)⟩ hv2
theorem suL_ok {b : Nat → Int} {n h : Int} {D : Nat} {F : Int → Sum EE9 (E9 × Int)} (hF : GF n h D F) (p0 : Int) (hp0 : 0 ≤ p0) : ∀ (q : Nat) (a : E9) (p : Int) (v : E9 × Int), OE n h (D + 2) p0 (a, p) → suL b n F q a p = .inr v → OE n h (D + 2) p0 v
  | 0, a, p, v, ho, hv => by
    cases hv
    exact ho
  | q + 1, a, p, v, ho, hv => by
    have hpb := ho.1
    simp only at hpb
    have hv' : (if kd b n p = 43 ∨ kd b n p = 45 then bnE (prE b n F (nx b n p)) (fun v => suL b n F q (binE (opS (kd b n p)) a v.1) v.2) else .inr (a, p)) = .inr v := hv
    split at hv'
    · next hk =>
      have hn := nx_lt (b := b) (n := n) (p := p) hpb.2 (by omega)
      obtain ⟨e, he, hv2⟩ := bnE_ok hv'
      have h2 := hF.pr (b := b) _ e (by omega) hn.2 he
      exact suL_ok hF p0 hp0 q _ _ v (OE.bin opS_b.1 opS_b.2 hn.1 ho h2) hv2
    · cases hv'
      exact ho
theorem GF.su {b : Nat → Int} {n h : Int} {D : Nat} {F : Int → Sum EE9 (E9 × Int)} (hF : GF n h D F) : GF n h (D + 2) (suE b n F) := by
  intro p v p0 pn hv
  obtain ⟨e, he, hv2⟩ := bnE_ok hv
  have h1 := hF.pr (b := b) p e p0 pn he
  exact suL_ok hF p p0 500 e.1 e.2 v ⟨h1.1, h1.2.1, h1.2.2.mono (by omega)⟩ hv2
theorem fcE_b {b : Nat → Int} {n h p : Int} {v : E9 × Int} {X : Sum EE9 (E9 × Int)} (p0 : 0 ≤ p) (pn : p ≤ n) {D : Nat} (hD : 1 ≤ D) (hX : ¬ kd b n p = 258 → ¬ kd b n p = 259 → X = .inr v → OE n h D p v) (hv : (if kd b n p = 258 then (if amt b n p ≤ h then .inr (numE (amt b n p), nx b n p) else .inl (2, p)) else if kd b n p = 259 then .inr (regE (amt b n p), nx b n p) else X) = .inr v) : OE n h D p v := by
  have ha := amt_b (b := b) p0 pn
  split at hv
  · next hk =>
    have hn := nx_lt (b := b) (n := n) (p := p) pn (by omega)
    split at hv
    · next hh =>
      cases hv
      exact ⟨⟨hn.1, hn.2⟩, ⟨by show ((1 : Nat) : Int) ≤ 2 * (nx b n p - p); omega, by show ((1 : Nat) : Int) ≤ nx b n p - p; omega⟩, (EV.num ha.1 hh).mono hD⟩
    · cases hv
  · next hk1 =>
    split at hv
    · next hk =>
      have hn := nx_lt (b := b) (n := n) (p := p) pn (by omega)
      have hr := amt_reg hk
      cases hv
      exact ⟨⟨hn.1, hn.2⟩, ⟨by show ((1 : Nat) : Int) ≤ 2 * (nx b n p - p); omega, by show ((1 : Nat) : Int) ≤ nx b n p - p; omega⟩, (EV.reg hr.2.1 hr.2.2).mono hD⟩
    · next hk2 => exact hX hk1 hk2 hv
theorem GF.fc {b : Nat → Int} {n h : Int} : ∀ o : Nat, GF n h (1 + 2 * o) (fcE b n h o)
  | 0 => by
    intro p v p0 pn hv
    refine fcE_b p0 pn (by omega) (fun _ _ hX => ?_) hv
    split at hX <;> cases hX
  | o + 1 => by
    intro p v p0 pn hv
    have ih := GF.fc (b := b) (n := n) (h := h) o
    refine fcE_b p0 pn (by omega) (fun _ _ hX => ?_) hv
    split at hX
    · next hk =>
      have hn := nx_lt (b := b) (n := n) (p := p) pn (by omega)
      obtain ⟨e, he, hv2⟩ := bnE_ok hX
      obtain ⟨q, hq, hv3⟩ := bnE_ok hv2
      have h1 := ih.su (b := b) _ e (by omega) hn.2 he
      cases hv3
      unfold tkE at hq
      split at hq
      · next hk2 =>
        cases hq
        have hn2 := nx_lt (b := b) (n := n) (p := e.2) h1.1.2 (by omega)
        obtain ⟨⟨a1, a2⟩, ⟨a3, a4⟩, a5⟩ := h1
        exact ⟨⟨by show p < nx b n e.2; omega, hn2.2⟩, ⟨by show ((e.1.1.length : Nat) : Int) ≤ 2 * (nx b n e.2 - p); omega, by show ((e.1.2.length : Nat) : Int) ≤ nx b n e.2 - p; omega⟩, a5.mono (by omega)⟩
      · cases hq
    · next hk1 =>
      split at hX
      · next hk =>
        have hn := nx_lt (b := b) (n := n) (p := p) pn (by omega)
        obtain ⟨e, he, hv2⟩ := bnE_ok hX
        have h1 := ih _ e (by omega) hn.2 he
        cases hv2
        obtain ⟨⟨a1, a2⟩, ⟨a3, a4⟩, a5⟩ := h1
        refine ⟨⟨by show p < e.2; omega, a2⟩, ⟨?_, ?_⟩, (EV.neg (by omega) a5).mono (by omega)⟩
        · show (((0, 0, 0) :: (e.1.1 ++ [(2, 1, 0)]) : List (Int × Int × Int)).length : Int) ≤ 2 * (e.2 - p)
          rw [List.length_cons, List.length_append, List.length_singleton]
          omega
        · show ((e.1.2 ++ [(7, 0)] : List (Int × Int)).length : Int) ≤ e.2 - p
          rw [List.length_append, List.length_singleton]
          omega
      · cases hX
