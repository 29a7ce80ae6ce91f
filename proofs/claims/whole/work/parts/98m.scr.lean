/-! THE LAW: its script, at place 3300, which nobody writes -/
def gS (L : Nat) (xs : Nat → Int32) : GP := fun s A b => va_X b L xs s s.heap ∧ b < s.heap.size ∧ ¬ A b
def o_sln (L nx : Nat) : OP := fun Kn _ _ _ mc ms ls st w => match st with
  | .ref a :: r => (match Nat.beq a 3300 with
    | true => Kn mc ms nx ls (.int (Int32.ofNat L) :: r) w
    | false => False)
  | _ => False
theorem s_sln {M : MM} {pc L : Nat} {xs : Nat → Int32} (hd : decode M.2.1 pc = .ok (.arraylength, 1)) : SP (gS L xs) M pc (o_sln L (pc + 1)) := by
  intro d mc ms ls st w K KX Kn hK h l p e R s m args below meth c H locs cells slots X ad A n0 ad0 mc0 ms0 la E
  obtain ⟨⟨htr, hx, hb, hml, hr, hown, hts, hlk, hnm⟩, -, hl, ⟨hKK, hP, hD, hS, hA, hR, hG⟩, hnt, hX, hbl, hbA⟩ := id E
  simp only [o_sln] at h
  split at h
  · next a r =>
    split at h
    · next ha =>
      have ha := Nat.eq_of_beq_eq_true ha
      subst ha
      have e0 : ad 3300 = ad0 3300 := hG.2.2 3300 (Or.inr (Nat.le_trans hG.2.1 (by decide)))
      show W p l e R s m args below meth c H locs cells slots _ (F0 m pc la (.ref (ad 3300) :: r.map (cV ad)))
      rw [e0]
      exact va_slen hx hb hX hbl hbA hS hd (hK _ _ _ _ _ _ h E)
    · exact h.elim
  · exact h.elim
def o_sld (L : Nat) (xs : Nat → Int32) (nx : Nat) : OP := fun Kn _ _ _ mc ms ls st w => match st with
  | .int i :: .ref a :: r => (match Nat.beq a 3300 with
    | true => vp_in i L ∧ Kn mc ms nx ls (.int (xs i.toNatClampNeg) :: r) w
    | false => False)
  | _ => False
theorem s_sld {M : MM} {pc L : Nat} {xs : Nat → Int32} (hd : decode M.2.1 pc = .ok (.iaload, 1)) : SP (gS L xs) M pc (o_sld L xs (pc + 1)) := by
  intro d mc ms ls st w K KX Kn hK h l p e R s m args below meth c H locs cells slots X ad A n0 ad0 mc0 ms0 la E
  obtain ⟨⟨htr, hx, hb, hml, hr, hown, hts, hlk, hnm⟩, -, hl, ⟨hKK, hP, hD, hS, hA, hR, hG⟩, hnt, hX, hbl, hbA⟩ := id E
  simp only [o_sld] at h
  split at h
  · next i a r =>
    split at h
    · next ha =>
      obtain ⟨hin, h⟩ := h
      have ha := Nat.eq_of_beq_eq_true ha
      subst ha
      have e0 : ad 3300 = ad0 3300 := hG.2.2 3300 (Or.inr (Nat.le_trans hG.2.1 (by decide)))
      show W p l e R s m args below meth c H locs cells slots _ (F0 m pc la (.int i :: .ref (ad 3300) :: r.map (cV ad)))
      rw [e0]
      exact va_sld hx hb hX hbl hbA hS hin hd (hK _ _ _ _ _ _ h E)
    · exact h.elim
  · exact h.elim
theorem acP_nil {gp : GP} {M : MM} : ∀ x ∈ ([] : TT), SP gp M x.1 x.2 := fun _ h => nomatch h
theorem acP {gp : GP} {M : MM} {p : Nat} {o : OP} {t : TT} (h : SP gp M p o) (r : ∀ x ∈ t, SP gp M x.1 x.2) : ∀ x ∈ ((p, o) :: t), SP gp M x.1 x.2 := List.forall_mem_cons.mpr ⟨h, r⟩
theorem GOn_le {gp : GP} {M : MM} {d mc ms mc' ms' pc : Nat} {ls : PLo} {st : List Value} {w : PW} {K : Option Value → PW → Prop} {KX : String → PW → Prop} (h1 : mc ≤ mc') (h2 : ms ≤ ms') (h : GOn 0 gp M d mc ms pc ls st w K KX) : GOn 0 gp M d mc' ms' pc ls st w K KX := by
  refine GOn_iff.mpr ?_
  intro l p e R s m args below meth c H locs cells slots X ad A n0 ad0 mc0 ms0 la E
  obtain ⟨E1, ⟨q1, q2, q3, q4, q5, q6, q7, q8⟩, E3⟩ := E
  exact GOn_iff.mp h ⟨E1, ⟨q1, q2, by omega, by omega, q5, q6, by omega, q8⟩, E3⟩
theorem GOn_weak {gp : GP} {M : MM} {d mc ms pc : Nat} {ls ls' : PLo} {st : List Value} {w : PW} {K : Option Value → PW → Prop} {KX : String → PW → Prop} (hs : ∀ (j : Nat) (v : Value), ls'[j]? = some (some v) → ls[j]? = some (some v)) (h : GOn 0 gp M d mc ms pc ls' st w K KX) : GOn 0 gp M d mc ms pc ls st w K KX := GOn_iff.mpr (GG.weaken hs (GOn_iff.mp h))
theorem GOn_take {gp : GP} (n : Nat) {M : MM} {d mc ms pc : Nat} {ls : PLo} {st : List Value} {w : PW} {K : Option Value → PW → Prop} {KX : String → PW → Prop} (h : GOn 0 gp M d mc ms pc (ls.take n) st w K KX) : GOn 0 gp M d mc ms pc ls st w K KX := GOn_weak (fun j v hj => by
  rw [List.getElem?_take] at hj
  split at hj
  · exact hj
  · cases hj) h
