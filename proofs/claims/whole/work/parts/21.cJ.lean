theorem c_jMath_floorMod {d mc ms : Nat} {w : PW} {K : Option Value → PW → Prop} {KX : String → PW → Prop} {x y : Int} (hx : r64 x) (hy : r64 y) (h0 : 0 < y) (h : K (some (.long (lI (x % y)))) w) : WQ M_jMath_floorMod d mc ms [.long (lI x), .long (lI y)] w K KX := by
  refine meth' _ rfl (by decide +kernel) (tz_jMath rfl) rfl ?_
  refine run k_jMath_floorMod [] 60 ?_
  conv => whnf
  skip
def mlW (n ck st : Int) (wh rg : Int) (md : Nat → Int) (wt num acc : Nat → Int) : PW := [.inr (1, [.ref 1, .ref 4, .ref 5, .int (iI st)]), .inr (2, [.ref 2, .ref 3, .int (iI n), .int (iI ck), .long (lI wh), .long (lI rg)]), .inl (1, 6, .inl (fun j => iI (md j))), .inl (2, 6, .inr (.inl (fun j => lI (wt j)))), .inl (2, 8, .inr (.inl (fun j => lI (num j)))), .inl (1, 8, .inl (fun j => iI (acc j)))]
theorem c_Ml_numberAt {d mc ms : Nat} {n ck st wh rg : Int} {md wt num acc : Nat → Int} {K : Option Value → PW → Prop} {KX : String → PW → Prop} {r : Int} (hr : r32 r) (h0 : 0 ≤ r) (h8 : r < 8) (h : K (some (.long (lI (num r.toNat)))) (mlW n ck st wh rg md wt num acc)) : WQ M_Ml_numberAt d mc ms [.ref 0, .int (iI r)] (mlW n ck st wh rg md wt num acc) K KX := by
  refine meth' _ rfl (by decide +kernel) (tz_Ml rfl) rfl ?_
  refine run k_Ml_numberAt [] 60 ?_
  conv => whnf
  refine br_f (by rw [i0, iI_lt hr (by omega)]; omega) ?_
  conv => whnf
  skip
