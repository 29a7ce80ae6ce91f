/-! FIELDS AND ARRAYS -/
def o_get (ci k nx : Nat) : OP := fun Kn _ _ _ mc ms ls st w => match st with
  | .ref a :: r => (match gW w a with
    | some (.inr (c9, fs)) => if c9 = ci then (match gF fs k with
      | some v => Kn mc ms nx ls (v :: r) w
      | none => False) else False
    | _ => False)
  | _ => False
theorem s_get {M : MM} {pc idx ci k N : Nat} {C : String} {T : u_T} (hd : decode M.2.1 pc = .ok (.getfield idx, 3)) (hc : classes[ci]? = some (C, T, N)) (hin : ∀ w ∈ u_ws C T N, w ∈ WD) (hk : k < N) (hw : Cond.fieldLink M.1.cls idx (T k).1 (T k).2.1 (T k).2.2.1 ∈ WD) : SO M pc (o_get ci k (pc + 3)) := by
  intro d mc ms ls st w K KX Kn gp hK h l p e R s m args below meth c H locs cells slots X ad A n0 ad0 mc0 ms0 la E
  obtain ⟨⟨htr, hx, hb, hml, hr, hown, hts, hlk, hnm⟩, -, hl, ⟨hKK, hP, hD, hS, hA, hR, hG⟩, -⟩ := id E
  simp only [o_get] at h
  split at h
  · next a r =>
    split at h
    · next c9 fs hg =>
      split at h
      · next hci =>
        subst hci
        split at h
        · next v hv =>
          have h1 := hK _ _ _ _ _ _ h
          refine va_get (Ts := WD) hx hb hts hin hown hKK hP a (cW_at (by rw [← gW_eq]; exact hg)) hc k hk (hts _ hw) (fun x h => h) (v := cV ad v) ?_ hd (h1 E)
          rw [List.getElem?_map, ← gF_eq, hv]
          rfl
        · exact h.elim
      · exact h.elim
    · exact h.elim
  · exact h.elim
/-- a field is written: the new world -/
theorem put_EE {gp : GP} {M : MM} {d mc ms : Nat} {ls : PLo} {w : PW} {l : Launch} {p : Program} {R : Room} {s : State} {m : MethodId} {args : Array Value} {meth : Method} {c : Code} {H H1 : Heap} {locs locs1 : List Loc} {cells slots : Nat} {X : XX} {ad : Nat → Nat} {A : Nat → Prop} {n0 : Nat} {ad0 : Nat → Nat} {mc0 ms0 : Nat} {la : Array Slot} {a : Nat} {x : va_E}
    (E : EE gp M d mc ms ls w l p R s m args meth c H locs cells slots X ad A n0 ad0 mc0 ms0 la)
    (hP : va_P X.1 classes ((cW X.2 ad w).set a (ad a, cE X.2 ad x)) H1) (hD : va_D A ((cW X.2 ad w).set a (ad a, cE X.2 ad x))) (hS : va_S A s.heap H1 locs1) :
    EE gp M d mc ms ls (w.set a x) l p R s m args meth c H1 locs1 cells slots X ad A n0 ad0 mc0 ms0 la := by
  obtain ⟨E1, ⟨q1, q2, q3, q4, q5, q6, q7, q8⟩, hl, ⟨hKK, -, -, -, hA, hR, hG⟩, E5⟩ := E
  rw [cW_set] at hP hD
  exact ⟨E1, ⟨q1, q2, q3, q4, q5, q6, by rw [List.length_set]; exact q7, q8⟩, hl, ⟨hKK, hP, hD, hS, hA, hR, by rw [List.length_set]; exact hG⟩, E5⟩
def o_putK (v : Value) (ci k nx : Nat) (a : Nat) (r : List Value) : OP := fun Kn _ _ _ mc ms ls _ w => match gW w a with
    | some (.inr (c9, fs)) => if c9 = ci then (match gF fs k with
      | some _ => kF v fs k (fun fs => kW (.inr (c9, fs)) w a (fun w => Kn mc ms nx ls r w))
      | none => False) else False
    | _ => False
def o_puti (ci k nx : Nat) : OP := fun Kn K KX d mc ms ls st w => match st with
  | .int x :: .ref a :: r => o_putK (.int x) ci k nx a r Kn K KX d mc ms ls st w
  | _ => False
def o_putz (ci k nx : Nat) : OP := fun Kn K KX d mc ms ls st w => match st with
  | .int x :: .ref a :: r => (x = 0 ∨ x = 1) ∧ o_putK (.int x) ci k nx a r Kn K KX d mc ms ls st w
  | _ => False
def o_putb (ci k nx : Nat) : OP := fun Kn K KX d mc ms ls st w => match st with
  | .int x :: .ref a :: r => (narrow .byte (.int x) = .int x ∧ fits .byte (.int x) = true) ∧ o_putK (.int x) ci k nx a r Kn K KX d mc ms ls st w
  | _ => False
def o_putl (ci k nx : Nat) : OP := fun Kn K KX d mc ms ls st w => match st with
  | .long x :: .ref a :: r => o_putK (.long x) ci k nx a r Kn K KX d mc ms ls st w
  | _ => False
def o_putr (ci k nx : Nat) : OP := fun Kn K KX d mc ms ls st w => match st with
  | .ref x :: .ref a :: r => o_putK (.ref x) ci k nx a r Kn K KX d mc ms ls st w
  | .null :: .ref a :: r => o_putK .null ci k nx a r Kn K KX d mc ms ls st w
  | _ => False
/-- what is known of a field that is written -/
def putOk (M : MM) (idx ci k N : Nat) (C : String) (T : u_T) (ty0 : Nat → FieldType) : Prop :=
  classes[ci]? = some (C, T, N) ∧ (∀ w ∈ u_ws C T N, w ∈ WD) ∧ k < N ∧ Cond.fieldLink M.1.cls idx (T k).1 (T k).2.1 (T k).2.2.1 ∈ WD ∧ (∀ k, k < N → parseFieldDescriptor (T k).2.2.1 = some (ty0 k)) ∧ (∀ a, a < N → ∀ b, b < N → a ≠ b → (T a).2.1 ≠ (T b).2.1) ∧ ((T k).2.2.2 = false ∨ ((T k).2.2.2 = true ∧ M.1.name = "<init>" ∧ (T k).1 = M.1.cls))
theorem s_putK {gp : GP} {M : MM} {pc idx ci k N : Nat} {C : String} {T : u_T} {ty0 : Nat → FieldType} (hd : decode M.2.1 pc = .ok (.putfield idx, 3)) (ho : putOk M idx ci k N C T ty0) {v : Value} {a : Nat} {r : List Value}
    (hn : ∀ ad, narrow (ty0 k) (cV ad v) = cV ad v) (hf : ∀ ad, fits (ty0 k) (cV ad v) = true) {d mc ms : Nat} {ls : PLo} {w : PW} {K : Option Value → PW → Prop} {KX : String → PW → Prop} {Kn : KN}
    (hK : ∀ mc ms pc ls st w, Kn mc ms pc ls st w → GG gp M d mc ms pc ls st w K KX) {st0 : List Value} (h : o_putK v ci k (pc + 3) a r Kn K KX d mc ms ls st0 w) : GG gp M d mc ms pc ls (v :: .ref a :: r) w K KX := by
  intro l p e R s m args below meth c H locs cells slots X ad A n0 ad0 mc0 ms0 la E
  obtain ⟨⟨htr, hx, hb, hml, hr, hown, hts, hlk, hnm⟩, -, hl, ⟨hKK, hP, hD, hS, hA, hR, hG⟩, -⟩ := id E
  obtain ⟨hc, hin, hk, hw, hty, hnmm, hfin⟩ := ho
  simp only [o_putK] at h
  split at h
  · next c9 fs hg =>
    split at h
    · next hci =>
      subst hci
      split at h
      · next v0 hv =>
        rw [kF_eq, kW_eq] at h
        have h1 := hK _ _ _ _ _ _ h
        have hlen : k < (fs.map (cV ad)).length := by
          rw [gF_eq] at hv
          rw [List.length_map]
          exact (List.getElem?_eq_some_iff.mp hv).1
        have he := cW_at (td := X.2) (ad := ad) (w := w) (k := a) (by rw [← gW_eq]; exact hg)
        have key : (cW X.2 ad w).set a (ad a, (.inr (c9, (fs.map (cV ad)).set k (cV ad v)) : va_E)) = (cW X.2 ad w).set a (ad a, cE X.2 ad (.inr (c9, fs.set k v))) := by
          show _ = (cW X.2 ad w).set a (ad a, (.inr (c9, (fs.set k v).map (cV ad)) : va_E))
          rw [List.map_set]
        rcases hfin with hfin | ⟨hfin, hi1, hi2⟩
        · refine va_put (Ts := WD) hx hb hts hin ty0 hty hnmm hown hKK hP hD hS a he hc k hk (hts _ hw) (fun x h => h) hfin (hty k hk) (hn ad) (hf ad) hlen hd (fun H1 locs1 gP gD gS => ?_)
          rw [key] at gP gD
          exact h1 (put_EE E gP gD gS)
        · refine va_putF (Ts := WD) hx hb hts hin ty0 hty hnmm hown hKK hP hD hS a he hc k hk (hts _ hw) (fun x h => h) hfin (by rw [hnm]; exact hi1) hi2 (hty k hk) (hn ad) (hf ad) hlen hd (fun H1 locs1 gP gD gS => ?_)
          rw [key] at gP gD
          exact h1 (put_EE E gP gD gS)
      · exact h.elim
    · exact h.elim
  · exact h.elim
theorem s_puti {M : MM} {pc idx ci k N : Nat} {C : String} {T : u_T} {ty0 : Nat → FieldType} (hd : decode M.2.1 pc = .ok (.putfield idx, 3)) (ho : putOk M idx ci k N C T ty0) (ht : ty0 k = .int) : SO M pc (o_puti ci k (pc + 3)) := by
  intro d mc ms ls st w K KX Kn gp hK h
  simp only [o_puti] at h
  split at h
  · exact s_putK hd ho (fun ad => by rw [ht]; rfl) (fun ad => by rw [ht]; rfl) hK h
  · exact h.elim
theorem s_putz {M : MM} {pc idx ci k N : Nat} {C : String} {T : u_T} {ty0 : Nat → FieldType} (hd : decode M.2.1 pc = .ok (.putfield idx, 3)) (ho : putOk M idx ci k N C T ty0) (ht : ty0 k = .boolean) : SO M pc (o_putz ci k (pc + 3)) := by
  intro d mc ms ls st w K KX Kn gp hK h
  simp only [o_putz] at h
  split at h
  · obtain ⟨h0, h⟩ := h
    refine s_putK hd ho (fun ad => ?_) (fun ad => ?_) hK h
    · rw [ht]; rcases h0 with rfl | rfl <;> rfl
    · rw [ht]; rcases h0 with rfl | rfl <;> rfl
  · exact h.elim
theorem s_putb {M : MM} {pc idx ci k N : Nat} {C : String} {T : u_T} {ty0 : Nat → FieldType} (hd : decode M.2.1 pc = .ok (.putfield idx, 3)) (ho : putOk M idx ci k N C T ty0) (ht : ty0 k = .byte) : SO M pc (o_putb ci k (pc + 3)) := by
  intro d mc ms ls st w K KX Kn gp hK h
  simp only [o_putb] at h
  split at h
  · obtain ⟨h0, h⟩ := h
    exact s_putK hd ho (fun ad => by rw [ht]; exact h0.1) (fun ad => by rw [ht]; exact h0.2) hK h
  · exact h.elim
theorem s_putl {M : MM} {pc idx ci k N : Nat} {C : String} {T : u_T} {ty0 : Nat → FieldType} (hd : decode M.2.1 pc = .ok (.putfield idx, 3)) (ho : putOk M idx ci k N C T ty0) (ht : ty0 k = .long) : SO M pc (o_putl ci k (pc + 3)) := by
  intro d mc ms ls st w K KX Kn gp hK h
  simp only [o_putl] at h
  split at h
  · exact s_putK hd ho (fun ad => by rw [ht]; rfl) (fun ad => by rw [ht]; rfl) hK h
  · exact h.elim
theorem s_putr {M : MM} {pc idx ci k N : Nat} {C : String} {T : u_T} {ty0 : Nat → FieldType} (hd : decode M.2.1 pc = .ok (.putfield idx, 3)) (ho : putOk M idx ci k N C T ty0) (ht : (∃ n, ty0 k = .object n) ∨ ∃ t, ty0 k = .array t) : SO M pc (o_putr ci k (pc + 3)) := by
  intro d mc ms ls st w K KX Kn gp hK h
  simp only [o_putr] at h
  split at h
  · exact s_putK hd ho (fun ad => by rcases ht with ⟨n, e⟩ | ⟨n, e⟩ <;> rw [e] <;> rfl) (fun ad => by rcases ht with ⟨n, e⟩ | ⟨n, e⟩ <;> rw [e] <;> rfl) hK h
  · exact s_putK hd ho (fun ad => by rcases ht with ⟨n, e⟩ | ⟨n, e⟩ <;> rw [e] <;> rfl) (fun ad => by rcases ht with ⟨n, e⟩ | ⟨n, e⟩ <;> rw [e] <;> rfl) hK h
  · exact h.elim
/-! ARRAYS -/
def o_alen (nx : Nat) : OP := fun Kn _ _ _ mc ms ls st w => match st with
  | .ref a :: r => (match gW w a with
    | some (.inl (t9, n, _)) => if t9 < 4 then Kn mc ms nx ls (.int (iI (n : Int)) :: r) w else False
    | _ => False)
  | _ => False
theorem tyl_at {td : Nat → ClassId} {t : Nat} (h : t < 4) : ∃ ty, (tyl td)[t]? = some (td t, ty) := by
  match t, h with
  | 0, _ => exact ⟨_, rfl⟩
  | 1, _ => exact ⟨_, rfl⟩
  | 2, _ => exact ⟨_, rfl⟩
  | 3, _ => exact ⟨_, rfl⟩
theorem s_alen {M : MM} {pc : Nat} (hd : decode M.2.1 pc = .ok (.arraylength, 1)) : SO M pc (o_alen (pc + 1)) := by
  intro d mc ms ls st w K KX Kn gp hK h l p e R s m args below meth c H locs cells slots X ad A n0 ad0 mc0 ms0 la E
  obtain ⟨⟨htr, hx, hb, hml, hr, hown, hts, hlk, hnm⟩, -, hl, ⟨hKK, hP, hD, hS, hA, hR, hG⟩, -⟩ := id E
  simp only [o_alen] at h
  split at h
  · next a r =>
    split at h
    · next t9 n f hg =>
      split at h
      · next ht =>
        have h1 := hK _ _ _ _ _ _ h
        obtain ⟨ty, hty⟩ := tyl_at (td := X.2) ht
        exact va_alen (x := cA ad (n, f)) hx hb hKK hP a t9 (cW_at (by rw [← gW_eq]; exact hg)) hty (show Int32.ofNat n = iI (n : Int) from nI_iI n) hd (h1 E)
      · exact h.elim
    · exact h.elim
  · exact h.elim
def o_iald (nx : Nat) : OP := fun Kn _ _ _ mc ms ls st w => match st with
  | .int i :: .ref a :: r => (match gW w a with
    | some (.inl (t9, n, .inl f)) => if t9 = 1 then vp_in i n ∧ Kn mc ms nx ls (.int (f i.toNatClampNeg) :: r) w else False
    | _ => False)
  | _ => False
theorem s_iald {M : MM} {pc : Nat} (hd : decode M.2.1 pc = .ok (.iaload, 1)) : SO M pc (o_iald (pc + 1)) := by
  intro d mc ms ls st w K KX Kn gp hK h l p e R s m args below meth c H locs cells slots X ad A n0 ad0 mc0 ms0 la E
  obtain ⟨⟨htr, hx, hb, hml, hr, hown, hts, hlk, hnm⟩, -, hl, ⟨hKK, hP, hD, hS, hA, hR, hG⟩, -⟩ := id E
  simp only [o_iald] at h
  split at h
  · next i a r =>
    split at h
    · next t9 n f hg =>
      split at h
      · next ht =>
        subst ht
        have h1 := hK _ _ _ _ _ _ h.2
        exact va_iald hx hb hKK hP a 1 (cW_at (by rw [← gW_eq]; exact hg)) rfl h.1 hd (h1 E)
      · exact h.elim
    · exact h.elim
  · exact h.elim
def o_bald (nx : Nat) : OP := fun Kn _ _ _ mc ms ls st w => match st with
  | .int i :: .ref a :: r => (match gW w a with
    | some (.inl (t9, n, .inl f)) => if t9 = 0 then vp_in i n ∧ Kn mc ms nx ls (.int (f i.toNatClampNeg) :: r) w else False
    | _ => False)
  | _ => False
theorem s_bald {M : MM} {pc : Nat} (hd : decode M.2.1 pc = .ok (.baload, 1)) : SO M pc (o_bald (pc + 1)) := by
  intro d mc ms ls st w K KX Kn gp hK h l p e R s m args below meth c H locs cells slots X ad A n0 ad0 mc0 ms0 la E
  obtain ⟨⟨htr, hx, hb, hml, hr, hown, hts, hlk, hnm⟩, -, hl, ⟨hKK, hP, hD, hS, hA, hR, hG⟩, -⟩ := id E
  simp only [o_bald] at h
  split at h
  · next i a r =>
    split at h
    · next t9 n f hg =>
      split at h
      · next ht =>
        subst ht
        have h1 := hK _ _ _ _ _ _ h.2
        exact va_bald hx hb hKK hP a 0 (cW_at (by rw [← gW_eq]; exact hg)) rfl h.1 hd (h1 E)
      · exact h.elim
    · exact h.elim
  · exact h.elim
def o_lald (nx : Nat) : OP := fun Kn _ _ _ mc ms ls st w => match st with
  | .int i :: .ref a :: r => (match gW w a with
    | some (.inl (t9, n, .inr (.inl f))) => if t9 = 2 then vp_in i n ∧ Kn mc ms nx ls (.long (f i.toNatClampNeg) :: r) w else False
    | _ => False)
  | _ => False
theorem s_lald {M : MM} {pc : Nat} (hd : decode M.2.1 pc = .ok (.laload, 1)) : SO M pc (o_lald (pc + 1)) := by
  intro d mc ms ls st w K KX Kn gp hK h l p e R s m args below meth c H locs cells slots X ad A n0 ad0 mc0 ms0 la E
  obtain ⟨⟨htr, hx, hb, hml, hr, hown, hts, hlk, hnm⟩, -, hl, ⟨hKK, hP, hD, hS, hA, hR, hG⟩, -⟩ := id E
  simp only [o_lald] at h
  split at h
  · next i a r =>
    split at h
    · next t9 n f hg =>
      split at h
      · next ht =>
        subst ht
        have h1 := hK _ _ _ _ _ _ h.2
        exact va_lald hx hb hKK hP a 2 (cW_at (by rw [← gW_eq]; exact hg)) rfl h.1 hd (h1 E)
      · exact h.elim
    · exact h.elim
  · exact h.elim
def o_aald (nx : Nat) : OP := fun Kn _ _ _ mc ms ls st w => match st with
  | .int i :: .ref a :: r => (match gW w a with
    | some (.inl (t9, n, .inr (.inr (.inr (.inr f))))) => if t9 = 3 then vp_in i n ∧ ∃ j, f i.toNatClampNeg = some j ∧ Kn mc ms nx ls (.ref j :: r) w else False
    | _ => False)
  | _ => False
theorem s_aald {M : MM} {pc : Nat} (hd : decode M.2.1 pc = .ok (.aaload, 1)) : SO M pc (o_aald (pc + 1)) := by
  intro d mc ms ls st w K KX Kn gp hK h l p e R s m args below meth c H locs cells slots X ad A n0 ad0 mc0 ms0 la E
  obtain ⟨⟨htr, hx, hb, hml, hr, hown, hts, hlk, hnm⟩, -, hl, ⟨hKK, hP, hD, hS, hA, hR, hG⟩, -⟩ := id E
  simp only [o_aald] at h
  split at h
  · next i a r =>
    split at h
    · next t9 n f hg =>
      split at h
      · next ht =>
        subst ht
        obtain ⟨hin, j, hj, h⟩ := h
        have h1 := hK _ _ _ _ _ _ h
        refine va_aldq hx hb hKK hP a 3 (cW_at (by rw [← gW_eq]; exact hg)) rfl hin hd ?_
        have e : va_rf ((fun j => (f j).map ad) i.toNatClampNeg) = Value.ref (ad j) := by
          show va_rf ((f i.toNatClampNeg).map ad) = _
          rw [hj]; rfl
        rw [e]
        exact h1 E
      · exact h.elim
    · exact h.elim
  · exact h.elim
def o_iast (nx : Nat) : OP := fun Kn _ _ _ mc ms ls st w => match st with
  | .int x :: .int i :: .ref a :: r => (match gW w a with
    | some (.inl (t9, n, .inl f)) => if t9 = 1 then vp_in i n ∧ kW (.inl (t9, n, .inl (upd f i.toNatClampNeg x))) w a (fun w => Kn mc ms nx ls r w) else False
    | _ => False)
  | _ => False
theorem s_iast {M : MM} {pc : Nat} (hd : decode M.2.1 pc = .ok (.iastore, 1)) : SO M pc (o_iast (pc + 1)) := by
  intro d mc ms ls st w K KX Kn gp hK h l p e R s m args below meth c H locs cells slots X ad A n0 ad0 mc0 ms0 la E
  obtain ⟨⟨htr, hx, hb, hml, hr, hown, hts, hlk, hnm⟩, -, hl, ⟨hKK, hP, hD, hS, hA, hR, hG⟩, -⟩ := id E
  simp only [o_iast] at h
  split at h
  · next x i a r =>
    split at h
    · next t9 n f hg =>
      split at h
      · next ht =>
        subst ht
        obtain ⟨hin, h⟩ := h
        rw [kW_eq] at h
        have h1 := hK _ _ _ _ _ _ h
        exact va_iast hx hb hKK hP hD hS a 1 (cW_at (by rw [← gW_eq]; exact hg)) rfl hin hd (fun H1 locs1 gP gD gS => h1 (put_EE (x := .inl (1, n, .inl (upd f i.toNatClampNeg x))) E gP gD gS))
      · exact h.elim
    · exact h.elim
  · exact h.elim
def o_bast (nx : Nat) : OP := fun Kn _ _ _ mc ms ls st w => match st with
  | .int x :: .int i :: .ref a :: r => (match gW w a with
    | some (.inl (t9, n, .inl f)) => if t9 = 0 then vp_in i n ∧ kW (.inl (t9, n, .inl (upd f i.toNatClampNeg (vp_nar .byte x)))) w a (fun w => Kn mc ms nx ls r w) else False
    | _ => False)
  | _ => False
theorem s_bast {M : MM} {pc : Nat} (hd : decode M.2.1 pc = .ok (.bastore, 1)) : SO M pc (o_bast (pc + 1)) := by
  intro d mc ms ls st w K KX Kn gp hK h l p e R s m args below meth c H locs cells slots X ad A n0 ad0 mc0 ms0 la E
  obtain ⟨⟨htr, hx, hb, hml, hr, hown, hts, hlk, hnm⟩, -, hl, ⟨hKK, hP, hD, hS, hA, hR, hG⟩, -⟩ := id E
  simp only [o_bast] at h
  split at h
  · next x i a r =>
    split at h
    · next t9 n f hg =>
      split at h
      · next ht =>
        subst ht
        obtain ⟨hin, h⟩ := h
        rw [kW_eq] at h
        have h1 := hK _ _ _ _ _ _ h
        exact va_bast hx hb hKK hP hD hS a 0 (cW_at (by rw [← gW_eq]; exact hg)) rfl hin hd (fun H1 locs1 gP gD gS => h1 (put_EE (x := .inl (0, n, .inl (upd f i.toNatClampNeg (vp_nar .byte x)))) E gP gD gS))
      · exact h.elim
    · exact h.elim
  · exact h.elim
def o_last (nx : Nat) : OP := fun Kn _ _ _ mc ms ls st w => match st with
  | .long x :: .int i :: .ref a :: r => (match gW w a with
    | some (.inl (t9, n, .inr (.inl f))) => if t9 = 2 then vp_in i n ∧ kW (.inl (t9, n, .inr (.inl (vp_updL f i.toNatClampNeg x)))) w a (fun w => Kn mc ms nx ls r w) else False
    | _ => False)
  | _ => False
theorem s_last {M : MM} {pc : Nat} (hd : decode M.2.1 pc = .ok (.lastore, 1)) : SO M pc (o_last (pc + 1)) := by
  intro d mc ms ls st w K KX Kn gp hK h l p e R s m args below meth c H locs cells slots X ad A n0 ad0 mc0 ms0 la E
  obtain ⟨⟨htr, hx, hb, hml, hr, hown, hts, hlk, hnm⟩, -, hl, ⟨hKK, hP, hD, hS, hA, hR, hG⟩, -⟩ := id E
  simp only [o_last] at h
  split at h
  · next x i a r =>
    split at h
    · next t9 n f hg =>
      split at h
      · next ht =>
        subst ht
        obtain ⟨hin, h⟩ := h
        rw [kW_eq] at h
        have h1 := hK _ _ _ _ _ _ h
        exact va_last hx hb hKK hP hD hS a 2 (cW_at (by rw [← gW_eq]; exact hg)) rfl hin hd (fun H1 locs1 gP gD gS => h1 (put_EE (x := .inl (2, n, .inr (.inl (vp_updL f i.toNatClampNeg x)))) E gP gD gS))
      · exact h.elim
    · exact h.elim
  · exact h.elim
