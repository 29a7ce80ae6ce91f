/-! WHAT IS READ OF THE LAW'S TEXTS: each of them by evaluation -/
def bT (T : List Int) : Nat → Int := fun j => if j < T.length then T.getD j 0 else if j < 40 then 32 else 0
def okE (r : Sum EE9 ((Int × Int × Int) × (Nat → Int) × (Nat → Int))) : Bool := match r with
  | .inl _ => false
  | .inr v => decide (3 ≤ v.1.1) && (decide (v.1.2.1 ≤ 2) && (List.range 8).all (fun r => v.2.2 r == 0))
def evs (l : List (List Int × Int)) : Bool := l.all (fun x => [0, 1, 2].all (fun ck => [0, 1].all (fun st => okE (setupE (bT (txF x.1 ck st)) (txF x.1 ck st).length))))
theorem ev_3 : evs (reach 3) = true := by decide +kernel
set_option maxRecDepth 4000 in
theorem ev_4 : evs (reach 4) = true := by decide +kernel
set_option maxRecDepth 4000 in
theorem ev_5 : evs (reach 5) = true := by decide +kernel
