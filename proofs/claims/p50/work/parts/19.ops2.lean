/-! MAKING THINGS -/
def kPush {R : Sort _} (c : va_E) : PW → Nat → (Nat → PW → R) → R
  | [], n, k => k n [c]
  | a :: t, n, k => kPush c t (n + 1) (fun p l => k p (a :: l))
theorem kPush_eq {R : Sort _} (c : va_E) : ∀ (w : PW) (n : Nat) (k : Nat → PW → R), kPush c w n k = k (n + w.length) (w ++ [c])
  | [], n, k => rfl
  | a :: t, n, k => by
    have e : n + 1 + t.length = n + (a :: t).length := by
      rw [List.length_cons]
      omega
    rw [kPush, kPush_eq c t (n + 1), e]
    rfl
def bVb (n : Nat) (v : Value) : Bool := match v with
  | .ref k => (match Nat.ble 1000 k with
    | true => true
    | false => Nat.blt k n)
  | _ => true
theorem bVb_ok {n : Nat} {v : Value} (h : bVb n v = true) : bV n v := by
  cases v with
  | ref k =>
    simp only [bVb] at h
    split at h
    · next h1 => exact Or.inr (Nat.le_of_ble_eq_true h1)
    · exact Or.inl (Nat.le_of_ble_eq_true h)
  | _ => trivial
def bLob (n : Nat) : PLo → Bool
  | [] => true
  | none :: t => bLob n t
  | some v :: t => match bVb n v with
    | true => bLob n t
    | false => false
theorem bLob_ok {n : Nat} : ∀ ls : PLo, bLob n ls = true → bLo n ls
  | [], _ => trivial
  | none :: t, h => bLob_ok t h
  | some v :: t, h => by
    simp only [bLob] at h
    split at h
    · next h1 => exact ⟨bVb_ok h1, bLob_ok t h⟩
    · cases h
def bStb (n : Nat) : List Value → Bool
  | [] => true
  | v :: t => match bVb n v with
    | true => bStb n t
    | false => false
theorem bStb_ok {n : Nat} : ∀ st : List Value, bStb n st = true → bSt n st
  | [], _ => trivial
  | v :: t, h => by
    simp only [bStb] at h
    split at h
    · next h1 => exact ⟨bVb_ok h1, bStb_ok t h⟩
    · cases h
def bWp (n : Nat) : PW → Prop
  | [] => True
  | .inl (_, _, .inr (.inr (.inr (.inr f)))) :: t => (∀ j k, f j = some k → k < n ∨ 1000 ≤ k) ∧ bWp n t
  | .inl (_, _, .inl _) :: t => bWp n t
  | .inl (_, _, .inr (.inl _)) :: t => bWp n t
  | .inl (_, _, .inr (.inr (.inl _))) :: t => bWp n t
  | .inl (_, _, .inr (.inr (.inr (.inl _)))) :: t => bWp n t
  | .inr (_, fs) :: t => match bStb n fs with
    | true => bWp n t
    | false => False
theorem bWp_ok {n : Nat} : ∀ w : PW, bWp n w → bW n w
  | [], _ => fun k c h => by simp at h
  | c :: t, h => by
    have key : (∀ (td : Nat → ClassId) (a b : Nat → Nat), (∀ k, (k < n ∨ 1000 ≤ k) → a k = b k) → cE td a c = cE td b c) ∧ bWp n t := by
      rcases c with ⟨ty, m, f⟩ | ⟨ci, fs⟩
      · rcases f with f | f | f | f | f
        · exact ⟨fun _ _ _ _ => rfl, h⟩
        · exact ⟨fun _ _ _ _ => rfl, h⟩
        · exact ⟨fun _ _ _ _ => rfl, h⟩
        · exact ⟨fun _ _ _ _ => rfl, h⟩
        · refine ⟨fun td a b hab => ?_, h.2⟩
          have e : (fun j => Option.map a (f j)) = fun j => Option.map b (f j) := funext fun j => by
            cases hf : f j with
            | none => rfl
            | some k => exact congrArg some (hab k (h.1 j k hf))
          simp only [cE, cA, e]
      · simp only [bWp] at h
        split at h
        · next h1 =>
          refine ⟨fun td a b hab => ?_, h⟩
          simp only [cE]
          rw [bSt_map hab fs (bStb_ok fs h1)]
        · exact h.elim
    intro k c' hk
    cases k with
    | zero =>
      simp only [List.getElem?_cons_zero, Option.some.injEq] at hk
      subst hk
      exact key.1
    | succ k => exact bWp_ok t key.2 k c' (by simpa using hk)
def adN (n q : Nat) (ad : Nat → Nat) : Nat → Nat := fun k => if k = n then q else ad k
theorem cW_push {td : Nat → ClassId} {ad : Nat → Nat} {w : PW} {q : Nat} {x : va_E} (hb : bW w.length w) (h9 : w.length < 1000) : cW td (adN w.length q ad) (w ++ [x]) = cW td ad w ++ [(q, cE td (adN w.length q ad) x)] := by
  apply List.ext_getElem?
  intro k
  rw [cW_get]
  by_cases h : k < w.length
  · rw [List.getElem?_append_left h, List.getElem?_append_left (by rw [cW_len]; exact h), cW_get]
    have hk := List.getElem?_eq_getElem h
    rw [hk]
    have e1 : adN w.length q ad k = ad k := if_neg (by omega)
    have e2 := hb k _ hk td (adN w.length q ad) ad (fun z hz => if_neg (by omega))
    simp only [Option.map_some, e1, e2]
  · rw [List.getElem?_append_right (by omega), List.getElem?_append_right (by rw [cW_len]; omega), cW_len]
    cases hz : k - w.length with
    | zero =>
      have e1 : adN w.length q ad k = q := if_pos (by omega)
      simp [e1]
    | succ z => simp
theorem push_EE {gp : GP} {M : MM} {d mc ms N : Nat} {ls : PLo} {w : PW} {l : Launch} {p : Program} {R : Room} {s : State} {m : MethodId} {args : Array Value} {meth : Method} {c : Code} {H H1 : Heap} {locs : List Loc} {cells slots : Nat} {X : XX} {ad : Nat → Nat} {A : Nat → Prop} {n0 : Nat} {ad0 : Nat → Nat} {mc0 ms0 : Nat} {la : Array Slot} {q : Nat} {x : va_E}
    (E : EE gp M d (mc + 1) ms ls w l p R s m args meth c H locs cells slots X ad A n0 ad0 mc0 ms0 la) (hN : N ≤ ms) (hb : bW w.length w) (hlo : bLo w.length ls)
    (hP : va_P X.1 classes (cW X.2 ad w ++ [(q, cE X.2 (adN w.length q ad) x)]) H1) (hD : va_D A (cW X.2 ad w ++ [(q, cE X.2 (adN w.length q ad) x)])) (hS : va_S A s.heap H1 locs) :
    EE gp M d mc (ms - N) ls (w ++ [x]) l p R s m args meth c H1 locs (cells + 1) (slots + N) X (adN w.length q ad) A n0 ad0 mc0 ms0 la := by
  obtain ⟨E1, ⟨q1, q2, q3, q4, q5, q6, q7, q8⟩, hl, ⟨hKK, -, -, -, hA, hR, hG⟩, E5⟩ := E
  have h9 : w.length < 1000 := by omega
  have agree : ∀ k, (k < w.length ∨ 1000 ≤ k) → adN w.length q ad k = ad k := fun k hk => if_neg (by omega)
  have e := cW_push (td := X.2) (ad := ad) (q := q) (x := x) hb h9
  refine ⟨E1, ⟨q1, q2, by omega, by omega, q5, q6, ?_, q8⟩, bLo_prs agree hlo hl, ⟨hKK, by rw [e]; exact hP, by rw [e]; exact hD, hS, hA, hR.ad (fun k hk => agree k (Or.inr hk)), ?_⟩, E5⟩
  · rw [List.length_append, List.length_singleton]
    omega
  · rw [List.length_append, List.length_singleton]
    refine ⟨by have := hG.1; omega, by omega, fun k hk => ?_⟩
    rw [← hG.2.2 k (by omega)]
    exact if_neg (by have := hG.1; omega)
/-- a new cell of N slots: its place goes on the stack -/
def mk1 (N : Nat) (x : va_E) (Kn : KN) (mc ms nx : Nat) (ls : PLo) (r : List Value) (w : PW) : Prop := match bLob w.length ls with
  | true => (match bStb w.length r with
    | true => (match mc with
      | mc + 1 => (N ≤ ms ∧ bWp w.length w) ∧ kPush x w 0 (fun p w => Kn mc (ms - N) nx ls (.ref p :: r) w)
      | 0 => False)
    | false => False)
  | false => False
theorem mk1_un {N : Nat} {x : va_E} {Kn : KN} {mc ms nx : Nat} {ls : PLo} {r : List Value} {w : PW} (h : mk1 N x Kn mc ms nx ls r w) : ∃ mc', mc = mc' + 1 ∧ N ≤ ms ∧ bW w.length w ∧ bLo w.length ls ∧ bSt w.length r ∧ Kn mc' (ms - N) nx ls (.ref w.length :: r) (w ++ [x]) := by
  unfold mk1 at h
  split at h
  · next h1 =>
    split at h
    · next h2 =>
      cases mc with
      | zero => exact h.elim
      | succ mc' =>
        obtain ⟨⟨h3, h4⟩, h⟩ := h
        rw [kPush_eq, Nat.zero_add] at h
        exact ⟨mc', rfl, h3, bWp_ok _ h4, bLob_ok _ h1, bStb_ok _ h2, h⟩
    · exact h.elim
  · exact h.elim
theorem mk1_go {gp : GP} {M : MM} {d mc ms nx N : Nat} {ls : PLo} {r : List Value} {w : PW} {K : Option Value → PW → Prop} {KX : String → PW → Prop} {l : Launch} {p : Program} {e : Env} {R : Room} {s : State} {m : MethodId} {args : Array Value} {below : List Frame} {meth : Method} {c : Code} {H H1 : Heap} {locs : List Loc} {cells slots : Nat} {X : XX} {ad : Nat → Nat} {A : Nat → Prop} {n0 : Nat} {ad0 : Nat → Nat} {mc0 ms0 : Nat} {la : Array Slot} {q : Nat} {x : va_E}
    (E : EE gp M d (mc + 1) ms ls w l p R s m args meth c H locs cells slots X ad A n0 ad0 mc0 ms0 la) (hN : N ≤ ms) (hb : bW w.length w) (hlo : bLo w.length ls) (hst : bSt w.length r) (hg : GG gp M d mc (ms - N) nx ls (.ref w.length :: r) (w ++ [x]) K KX)
    (hP : va_P X.1 classes (cW X.2 ad w ++ [(q, cE X.2 (adN w.length q ad) x)]) H1) (hD : va_D A (cW X.2 ad w ++ [(q, cE X.2 (adN w.length q ad) x)])) (hS : va_S A s.heap H1 locs) :
    W p l e R s m args below meth c H1 locs (cells + 1) (slots + N) (vx_MQ below (QQ X n0 mc0 ad0 A K) (QX X n0 mc0 ad0 A KX) args s mc0 ms0 A) (F0 m nx la (.ref q :: r.map (cV ad))) := by
  have h1 := hg (below := below) (p := p) (e := e) (push_EE E hN hb hlo hP hD hS)
  obtain ⟨-, ⟨-, -, -, -, -, -, q7, q8⟩, -⟩ := E
  have e1 : (Value.ref w.length :: r).map (cV (adN w.length q ad)) = .ref q :: r.map (cV ad) := by
    rw [List.map_cons, bSt_map (ad' := adN w.length q ad) (ad := ad) (fun k hk => if_neg (by omega)) r hst]
    show Value.ref (adN w.length q ad w.length) :: _ = _
    rw [show adN w.length q ad w.length = q from if_pos rfl]
  rw [e1] at h1
  exact h1
def o_new (ci N : Nat) (fs : List Value) (nx : Nat) : OP := fun Kn _ _ _ mc ms ls st w => mk1 N (.inr (ci, fs)) Kn mc ms nx ls st w
theorem s_new {M : MM} {pc ik ci N : Nat} {C : String} {T : u_T} {ty : Nat → FieldType} {fs : List Value} (hd : decode M.2.1 pc = .ok (.new ik, 3)) (hc : classes[ci]? = some (C, T, N)) (hin : ∀ w ∈ u_ws C T N, w ∈ WD) (hty : ∀ k, k < N → parseFieldDescriptor (T k).2.2.1 = some (ty k)) (hcl : Cond.classLink M.1.cls ik C ∈ WD) (hinst : Cond.instantiable C N ∈ WD) (hini : Cond.initialized C ∈ WD)
    (hfs : ∀ j, j < N → defaultValue (ty j) = vp_V fs j) (hfr : ∀ ad, fs.map (cV ad) = fs) : SO M pc (o_new ci N fs (pc + 3)) := by
  intro d mc ms ls st w K KX Kn gp hK h l p e R s m args below meth c H locs cells slots X ad A n0 ad0 mc0 ms0 la E
  obtain ⟨mc', rfl, g1, g2, g3, g4, h⟩ := mk1_un h
  obtain ⟨⟨htr, hx, hb, hml, hr, hown, hts, hlk, hnm⟩, ⟨q1, q2, q3, q4, q5, q6, q7, q8⟩, hl, ⟨hKK, hP, hD, hS, hA, hR, hG⟩, -⟩ := id E
  refine va_new (Ts := WD) hx hb hts hin ty hty hown (hts _ hcl) (hts _ hinst) (hts _ hini) hKK hP hD hS hA hc hfs (by omega) (by omega) hd (fun q H1 gP gD gS => ?_)
  have e1 : (.inr (ci, fs) : va_E) = cE X.2 (adN w.length q ad) (.inr (ci, fs)) := by
    show _ = (.inr (ci, fs.map (cV _)) : va_E)
    rw [hfr]
  rw [e1] at gP gD
  exact mk1_go E g1 g2 g3 g4 (hK _ _ _ _ _ _ h) gP gD gS
/-- new arrays: of bytes (0), ints (1), longs (2); of mills (3) -/
def o_newai (t : Nat) (nx : Nat) : OP := fun Kn _ _ _ mc ms ls st w => match st with
  | .int n :: r => (0 ≤ n.toInt ∧ n.toInt ≤ 60000) ∧ mk1 n.toInt.toNat (.inl (t, n.toInt.toNat, .inl (fun _ => 0))) Kn mc ms nx ls r w
  | _ => False
def o_newal (nx : Nat) : OP := fun Kn _ _ _ mc ms ls st w => match st with
  | .int n :: r => (0 ≤ n.toInt ∧ n.toInt ≤ 60000) ∧ mk1 n.toInt.toNat (.inl (2, n.toInt.toNat, .inr (.inl (fun _ => 0)))) Kn mc ms nx ls r w
  | _ => False
def o_newaq (nx : Nat) : OP := fun Kn _ _ _ mc ms ls st w => match st with
  | .int n :: r => (0 ≤ n.toInt ∧ n.toInt ≤ 60000) ∧ mk1 n.toInt.toNat (.inl (3, n.toInt.toNat, .inr (.inr (.inr (.inr (fun _ => none)))))) Kn mc ms nx ls r w
  | _ => False
theorem nneg {n : Int32} (h : 0 ≤ n.toInt) : ¬ n < 0 ∧ n.toNatClampNeg = n.toInt.toNat := ⟨fun h1 => by
  have := Int32.lt_iff_toInt_lt.mp h1
  simp at this
  omega, rfl⟩
theorem tyl_un {X : XX} {s : State} {k : Nat} {ty : FieldType} {cA : ClassId} {tys : List (ClassId × FieldType)} (hp : va_K X.1 classes (tyl X.2 ++ [(cA, ty)]) s) (hk : (tyl X.2)[k]? = some (X.2 k, ty)) : cA = X.2 k := by
  have h1 := (hp.2 4 (cA, ty) rfl).2
  have h2 := (hp.2 k (X.2 k, ty) (by rw [List.getElem?_append_left (List.getElem?_eq_some_iff.mp hk).1]; exact hk)).2
  cases ty with
  | object C =>
    obtain ⟨-, -, -, -, -, h1⟩ := h1
    obtain ⟨-, -, -, -, -, h2⟩ := h2
    exact Option.some.inj (h1.symm.trans h2)
  | _ => exact Option.some.inj (h1.symm.trans h2)
theorem s_newai {M : MM} {pc t : Nat} {aty : ArrayType} {ty : FieldType} (hd : decode M.2.1 pc = .ok (.newarray aty, 2)) (hty : newarray.typeOf aty = ty) (ht : ∀ td, (tyl td)[t]? = some (td t, ty)) (hw : Cond.arrayClass (newarray.typeOf aty) ∈ WD) (hc : componentBytes ty ≤ 8)
    (ha : ∀ (cA : ClassId) (N : Nat), vp_cell cA (N, .inl (fun _ => 0)) = arrV cA N (fun _ => defaultValue ty)) : SO M pc (o_newai t (pc + 2)) := by
  intro d mc ms ls st w K KX Kn gp hK h l p e R s m args below meth c H locs cells slots X ad A n0 ad0 mc0 ms0 la E
  simp only [o_newai] at h
  split at h
  · next n r =>
    obtain ⟨⟨z1, z2⟩, h⟩ := h
    obtain ⟨mc', rfl, g1, g2, g3, g4, h⟩ := mk1_un h
    obtain ⟨⟨htr, hx, hb, hml, hr, hown, hts, hlk, hnm⟩, ⟨q1, q2, q3, q4, q5, q6, q7, q8⟩, hl, ⟨hKK, hP, hD, hS, hA, hR, hG⟩, -⟩ := id E
    have hby : n.toInt.toNat * componentBytes ty ≤ 536870912 := Nat.le_trans (Nat.mul_le_mul (show n.toInt.toNat ≤ 60000 by omega) hc) (by decide)
    refine va_newa hx hb (hts _ hw) hty hKK hP hD hS hA (a0 := (n.toInt.toNat, .inl (fun _ => 0))) (fun cA => ha cA _) (nneg z1).1 (nneg z1).2 hby (by omega) (by omega) hd (fun q cA H1 gK gP gD gS => ?_)
    have e1 : cA = X.2 t := tyl_un (tys := []) gK (ht X.2)
    subst e1
    exact mk1_go E g1 g2 g3 g4 (hK _ _ _ _ _ _ h) gP gD gS
  · exact h.elim
theorem s_newal {M : MM} {pc : Nat} {aty : ArrayType} (hd : decode M.2.1 pc = .ok (.newarray aty, 2)) (hty : newarray.typeOf aty = .long) (hw : Cond.arrayClass (newarray.typeOf aty) ∈ WD)
    (ha : ∀ (cA : ClassId) (N : Nat), vp_cell cA (N, .inr (.inl (fun _ => 0))) = arrV cA N (fun _ => defaultValue .long)) : SO M pc (o_newal (pc + 2)) := by
  intro d mc ms ls st w K KX Kn gp hK h l p e R s m args below meth c H locs cells slots X ad A n0 ad0 mc0 ms0 la E
  simp only [o_newal] at h
  split at h
  · next n r =>
    obtain ⟨⟨z1, z2⟩, h⟩ := h
    obtain ⟨mc', rfl, g1, g2, g3, g4, h⟩ := mk1_un h
    obtain ⟨⟨htr, hx, hb, hml, hr, hown, hts, hlk, hnm⟩, ⟨q1, q2, q3, q4, q5, q6, q7, q8⟩, hl, ⟨hKK, hP, hD, hS, hA, hR, hG⟩, -⟩ := id E
    have hby : n.toInt.toNat * componentBytes .long ≤ 536870912 := Nat.le_trans (Nat.mul_le_mul (show n.toInt.toNat ≤ 60000 by omega) (show componentBytes .long ≤ 8 by decide)) (by decide)
    refine va_newa hx hb (hts _ hw) hty hKK hP hD hS hA (a0 := (n.toInt.toNat, .inr (.inl (fun _ => 0)))) (fun cA => ha cA _) (nneg z1).1 (nneg z1).2 hby (by omega) (by omega) hd (fun q cA H1 gK gP gD gS => ?_)
    have e1 : cA = X.2 2 := tyl_un (tys := []) gK rfl
    subst e1
    exact mk1_go E g1 g2 g3 g4 (hK _ _ _ _ _ _ h) gP gD gS
  · exact h.elim
theorem s_newaq {M : MM} {pc ik : Nat} (hd : decode M.2.1 pc = .ok (.anewarray ik, 3)) (hcl : Cond.classLink M.1.cls ik "RestMill$Mill" ∈ WD) : SO M pc (o_newaq (pc + 3)) := by
  intro d mc ms ls st w K KX Kn gp hK h l p e R s m args below meth c H locs cells slots X ad A n0 ad0 mc0 ms0 la E
  simp only [o_newaq] at h
  split at h
  · next n r =>
    obtain ⟨⟨z1, z2⟩, h⟩ := h
    obtain ⟨mc', rfl, g1, g2, g3, g4, h⟩ := mk1_un h
    obtain ⟨⟨htr, hx, hb, hml, hr, hown, hts, hlk, hnm⟩, ⟨q1, q2, q3, q4, q5, q6, q7, q8⟩, hl, ⟨hKK, hP, hD, hS, hA, hR, hG⟩, -⟩ := id E
    refine va_newq hx hb hown (hts _ hcl) hR.2.2.2.2.1.2.2 hKK hP hD hS hA (nneg z1).1 (nneg z1).2 (by omega) (by omega) (by omega) hd (fun q cA H1 gK gP gD gS => ?_)
    have e1 : cA = X.2 3 := tyl_un (tys := []) gK rfl
    subst e1
    exact mk1_go E g1 g2 g3 g4 (hK _ _ _ _ _ _ h) gP gD gS
  · exact h.elim
def o_aast (nx : Nat) : OP := fun Kn _ _ _ mc ms ls st w => match st with
  | .ref v :: .int i :: .ref a :: r => (match gW w a with
    | some (.inl (t, n, .inr (.inr (.inr (.inr f))))) => if t = 3 then (match gW w v with
      | some (.inr (ci, _)) => if ci = 1 then vp_in i n ∧ kW (.inl (t, n, .inr (.inr (.inr (.inr (va_up f i.toNatClampNeg (some v))))))) w a (fun w => Kn mc ms nx ls r w) else False
      | _ => False) else False
    | _ => False)
  | _ => False
theorem s_aast {M : MM} {pc : Nat} (hd : decode M.2.1 pc = .ok (.aastore, 1)) : SO M pc (o_aast (pc + 1)) := by
  intro d mc ms ls st w K KX Kn gp hK h l p e R s m args below meth c H locs cells slots X ad A n0 ad0 mc0 ms0 la E
  obtain ⟨⟨htr, hx, hb, hml, hr, hown, hts, hlk, hnm⟩, -, hl, ⟨hKK, hP, hD, hS, hA, hR, hG⟩, -⟩ := id E
  simp only [o_aast] at h
  split at h
  · next v i a r =>
    split at h
    · next t n f hg =>
      split at h
      · next ht =>
        subst ht
        split at h
        · next ci fs hv =>
          split at h
          · next hci =>
            subst hci
            obtain ⟨hin, h⟩ := h
            rw [kW_eq] at h
            have h1 := hK _ _ _ _ _ _ h
            refine va_astq hx hb hKK hP hD hS a 3 v 1 (cW_at (by rw [← gW_eq]; exact hg)) rfl (cW_at (by rw [← gW_eq]; exact hv)) rfl hin hd (fun H1 locs1 gP gD gS => ?_)
            have e1 : (.inl (X.2 3, n, .inr (.inr (.inr (.inr (va_up (fun j => (f j).map ad) i.toNatClampNeg (some (ad v))))))) : va_E) = cE X.2 ad (.inl (3, n, .inr (.inr (.inr (.inr (va_up f i.toNatClampNeg (some v))))))) := by
              have e2 : va_up (fun j => (f j).map ad) i.toNatClampNeg (some (ad v)) = fun j => (va_up f i.toNatClampNeg (some v) j).map ad := funext fun j => by
                unfold va_up
                split <;> rfl
              simp only [cE, cA, e2]
            exact h1 (put_EE E (by rw [← e1]; exact gP) (by rw [← e1]; exact gD) gS)
          · exact h.elim
        · exact h.elim
      · exact h.elim
    · exact h.elim
  · exact h.elim
/-- Object's own constructor -/
def o_oinit (nx : Nat) : OP := fun Kn _ _ d mc ms ls st w => match st with
  | .ref _ :: r => (match d with
    | _ + 1 => (match Nat.ble (catS r) 8 with
      | true => Kn mc ms nx ls r w
      | false => False)
    | 0 => False)
  | _ => False
theorem s_oinit {M : MM} {pc idx : Nat} (hd : decode M.2.1 pc = .ok (.invokespecial idx, 3)) (h1 : Cond.methodLink M.1.cls idx objectInit ∈ WD) (h2 : Cond.instanceMethod objectInit ∈ WD) (h3 : Cond.code objectInit ⟨#[0xb1]⟩ 1 none ∈ WD) : SO M pc (o_oinit (pc + 3)) := by
  intro d mc ms ls st w K KX Kn gp hK h l p e R s m args below meth c H locs cells slots X ad A n0 ad0 mc0 ms0 la E
  obtain ⟨⟨htr, hx, hb, hml, hr, hown, hts, hlk, hnm⟩, ⟨q1, q2, q3, q4, q5, q6, q7, q8⟩, hl, -, -⟩ := id E
  simp only [o_oinit] at h
  split at h
  · next a r =>
    split at h
    · next d' =>
      split at h
      · next hc =>
        have hc := Nat.le_of_ble_eq_true hc
        refine W.objInit hx hb hown (hts _ h1) (hts _ h2) (hts _ h3) rfl (by rw [hml]; exact hl.1) rfl hd (by omega) ?_ (hK _ _ _ _ _ _ h E)
        show 2 * 0 + ((r.map (cV ad)).map fun v => v.category).sum + 12 ≤ R.locals
        rw [catS_eq]
        omega
      · exact h.elim
    · exact h.elim
  · exact h.elim
/-- 'this(..)', 'new C(..)': a constructor that doesn't throw -/
def kRc (n : Nat) (Kn : KN) (mc ms nx : Nat) (ls : PLo) (rest : List Value) : Option Value → PW → Prop := fun r w => match bLob n ls with
  | true => (match bStb n rest with
    | true => kR Kn mc ms nx ls rest r w
    | false => False)
  | false => False
theorem kRc_un {n : Nat} {Kn : KN} {mc ms nx : Nat} {ls : PLo} {rest : List Value} {r : Option Value} {w : PW} (h : kRc n Kn mc ms nx ls rest r w) : (bLo n ls ∧ bSt n rest) ∧ kR Kn mc ms nx ls rest r w := by
  unfold kRc at h
  split at h
  · next h1 =>
    split at h
    · next h2 => exact ⟨⟨bLob_ok _ h1, bStb_ok _ h2⟩, h⟩
    · exact h.elim
  · exact h.elim
def cI (M' : MM) (mc1 ms1 : Nat) (Kn : KN) (d mc ms nx : Nat) (ls : PLo) (w : PW) (av rest : List Value) : Prop := if catS rest ≤ 8 then (match d with
    | d' + 1 => (mc1 ≤ mc ∧ ms1 ≤ ms) ∧ WQ M' d' mc1 ms1 av w (kRc w.length Kn (mc - mc1) (ms - ms1) nx ls rest) noX
    | 0 => False) else False
def o_callI (M' : MM) (n mc1 ms1 nx : Nat) : OP := fun Kn _ _ d mc ms ls st w => popA n st [] (fun av rest => match av with
    | .ref a :: as => cI M' mc1 ms1 Kn d mc ms nx ls w (.ref a :: as) rest
    | _ => False) False
theorem s_callI {M M' : MM} {pc idx n mc1 ms1 : Nat} (hz : tabOf M.1 = []) (hd : decode M.2.1 pc = .ok (.invokespecial idx, 3)) (ho : mOk M' n) (hr9 : M'.2.2.2 = none) (hnm9 : M'.1.name = "<init>") (hl : Cond.methodLink M.1.cls idx M'.1 ∈ WD) (hi : Cond.instanceMethod M'.1 ∈ WD) : SO M pc (o_callI M' (n + 1) mc1 ms1 (pc + 3)) := by
  intro d mc ms ls st w K KX Kn gp hK h
  unfold o_callI at h
  rcases popA_eq (n + 1) st [] (fun av rest => match av with
    | .ref a :: as => cI M' mc1 ms1 Kn d mc ms (pc + 3) ls w (.ref a :: as) rest
    | _ => False) False with ⟨av, rest, e1, e2, e3⟩ | e3
  · rw [e3, List.append_nil] at h
    rw [e1]
    split at h
    · next a as =>
      unfold cI at h
      split at h
      · next hc8 =>
        intro l p e R s m args below meth c H locs cells slots X ad A n0 ad0 mc0 ms0 la E
        obtain ⟨⟨htr, hx, hb, hml, hr0, hown, hts, hlk, hnm⟩, ⟨q1, q2, q3, q4, q5, q6, q7, q8⟩, hlv, ⟨hKK, hP, hD, hS, hA, hR, hG⟩, hnt⟩ := id E
        cases d with
        | zero => exact h.elim
        | succ d' =>
          obtain ⟨⟨g1, g2⟩, h⟩ := h
          have hM := (WQ_iff.mp h) (l := l) (X := X) (ad := ad) (sz := H.size) htr (by omega) (by omega)
          rw [cdOf_n ho.2.2.2.2.2.2] at hM
          have hM := met_of_vx (fun E9 s9 t9 hx9 => by obtain ⟨⟨w9, ad9, hf, -⟩, -⟩ := hx9; exact hf) hM
          rw [hr9] at hM
          have hgc := good_code ho
          rw [hr9] at hgc
          have cw := cwI (R := R) (own := M.1.cls) (index := idx) (rm := { frames := d', cells := mc1, slots := ms1, locals := 40 * d' }) n hts hgc rfl rfl rfl (hts _ ho.2.1) (hts _ hl) (hts _ hi) hnm9 ⟨ho.2.2.1, ho.2.2.2.1, ho.2.2.2.2.1⟩ (room_le ho.2.2.2.2.2.1 rfl q1 q2)
          refine call_use (mc1 := mc1) (ms1 := ms1) (rest := rest) hz hK E g1 g2 (fun r w' hk => ⟨Or.inr (kRc_un hk).1, (kRc_un hk).2⟩) (vx_of_va (va_runI (As := as.map (cV ad)) (b := ad a) ⟨hx, hb, hml, hown, hts⟩ hM cw ⟨CPc_blind, EE_pre E (.ref a :: as)⟩ rfl ?_ hlv.1 ?_ ?_ hd ⟨by omega, by omega⟩))
          · rw [List.length_map]
            simpa using e2
          · show ((Value.ref a :: as).reverse ++ rest).map (cV ad) = (as.map (cV ad)).reverse ++ .ref (ad a) :: rest.map (cV ad)
            rw [List.map_append, List.map_reverse]
            simp [cV]
          · show 2 * 0 + ((rest.map (cV ad)).map fun v => v.category).sum ≤ 8
            rw [catS_eq]
            omega
      · exact h.elim
    · exact h.elim
  · rw [e3] at h
    exact h.elim
