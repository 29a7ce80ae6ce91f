/-! A CALL THAT THE BUILDER ANSWERS WITH A METHOD OF ITS OWN -/
theorem s_callO {M M' : MM} {pc idx n mc1 ms1 : Nat} {x : MethodName} {b0 : ByteArray} {m0 : Nat} {r0 : Option FieldType} (hz : tabOf M.1 = []) (hd : decode M.2.1 pc = .ok (.invokevirtual idx, 3)) (ho : mOk M' n) (hp9 : (parseMethodDescriptor x.desc).map (fun d => d.parameters.length) = some n) (hc9 : x.cls ≠ "java/lang/invoke/MethodHandle" ∧ x.cls ≠ "java/lang/invoke/VarHandle")
    (w1 : Cond.methodLink M.1.cls idx x ∈ WD) (w2 : Cond.sameMethod x.cls x.cls x.name x.desc ∈ WD) (w5 : Cond.instanceMethod x ∈ WD) (w3 : Cond.selects "java/lang/StringBuilder" x M'.1 ∈ WD) (w4 : Cond.instanceMethod M'.1 ∈ WD) (w6 : Cond.code x b0 m0 r0 ∈ WD) : SO M pc (o_callU M' (n + 1) mc1 ms1 (pc + 3)) := by
  intro d mc ms ls st w K KX Kn gp hK h
  unfold o_callU at h
  rcases popA_eq (n + 1) st [] (cR 9 w (cI M' mc1 ms1 Kn d mc ms (pc + 3) ls w)) False with ⟨av, rest, e1, e2, e3⟩ | e3
  · rw [e3, List.append_nil] at h
    rw [e1]
    unfold cR at h
    split at h
    · next a as =>
      split at h
      · next c9 fs hg =>
        split at h
        · next hci =>
          subst hci
          obtain ⟨hc8, d', rfl, g1, g2, h⟩ := cI_un h
          intro l p e R s m args below meth c H locs cells slots X ad A n0 ad0 mc0 ms0 la E
          obtain ⟨⟨htr, hx, hb, hml, hr0, hown, hts, hlk, hnm⟩, ⟨q1, q2, q3, q4, q5, q6, q7, q8⟩, hlv, ⟨hKK, hP, hD, hS, hA, hR, hG⟩, hnt⟩ := id E
          have hM := h (l := l) (X := X) (ad := ad) (sz := H.size) htr (by omega) (by omega)
          rw [cdOf_n ho.2.2.2.2.2.2] at hM
          have hM := met_of_vx (fun E9 s9 t9 hx9 => by obtain ⟨⟨w9, ad9, hf, -⟩, -⟩ := hx9; exact hf) hM
          have cw := va_cwO (R := R) (C := "java/lang/StringBuilder") (owner := x.cls) (x := x) (y := M'.1) (b0 := b0) (m0 := m0) (r0 := r0) (rm := { frames := d', cells := mc1, slots := ms1, locals := 40 * d' }) n hts (good_app (a := [.methodLink M.1.cls idx x, .sameMethod x.cls x.cls x.name x.desc, .instanceMethod x, .selects "java/lang/StringBuilder" x M'.1, .instanceMethod M'.1, .initialized M'.1.cls]) (fun w hw => by
            simp only [List.mem_cons, List.not_mem_nil, or_false] at hw
            rcases hw with rfl | rfl | rfl | rfl | rfl | rfl
            · exact w1
            · exact w2
            · exact w5
            · exact w3
            · exact w4
            · exact ho.2.1) (good_code ho)) rfl rfl rfl w6 ⟨hc9.1, hc9.2, hp9⟩ (room_le ho.2.2.2.2.2.1 rfl q1 q2)
          refine call_use (mc1 := mc1) (ms1 := ms1) (rest := rest) hz hK E g1 g2 (fun r w' hk => ⟨Or.inr (kRc_un hk).1, (kRc_un hk).2⟩) (vx_of_va (va_runU (As := as.map (cV ad)) (b := ad a) (C := "java/lang/StringBuilder") ⟨hx, hb, hml, hown, hts⟩ hM cw ⟨CPc_blind, va_recv hKK hP (ci := 9) rfl (cW_at (by rw [← gW_eq]; exact hg)), EE_pre E (.ref a :: as)⟩ rfl ?_ hlv.1 (st_rev ad _ as rest) (st_sum ad hc8) hd ⟨by omega, by omega⟩))
          rw [List.length_map]
          simpa using e2
        · exact h.elim
      · exact h.elim
    · exact h.elim
  · rw [e3] at h
    exact h.elim
