/-! STRINGS, STATICS, INHERITED METHODS, COPIES -/
theorem st_at {i : Nat} (h : i < 11) : ∃ q, stTab[i]? = some q := ⟨stTab[i], List.getElem?_eq_getElem h⟩
theorem stB_at {i : Nat} {q : String × Nat × String × List Int32} (h : stTab[i]? = some q) : stB i = q.2.2.2 := by
  unfold stB
  rw [List.getD_eq_getElem?_getD, h]
  rfl
theorem stB_fit (i j : Nat) : fits .byte (.int ((stB i).getD j 0)) = true := by
  have key : stTab.all (fun q => q.2.2.2.all (fun b => fits .byte (.int b))) = true := by decide +kernel
  cases hq : stTab[i]? with
  | none =>
    have e : stB i = [] := by
      unfold stB
      rw [List.getD_eq_getElem?_getD, hq]
      rfl
    rw [e]
    rfl
  | some q =>
    rw [stB_at hq, List.getD_eq_getElem?_getD]
    cases hj : q.2.2.2[j]? with
    | none => rfl
    | some b => exact List.all_eq_true.mp (List.all_eq_true.mp key q (List.mem_of_getElem? hq)) b (List.mem_of_getElem? hj)
/-- is it a place of a String constant's (base 1000), of its bytes' (base 2000) -/
def isS (b a : Nat) : Bool := match Nat.ble b a with
  | true => Nat.blt a (b + 11)
  | false => false
theorem isS_ok {b a : Nat} (h : isS b a = true) : ∃ i, i < 11 ∧ a = b + i := by
  unfold isS at h
  split at h
  · next h1 =>
    have h1 := Nat.le_of_ble_eq_true h1
    have h2 := Nat.le_of_ble_eq_true h
    exact ⟨a - b, by omega, by omega⟩
  · cases h
def o_getSv (nx : Nat) : OP := fun Kn _ _ _ mc ms ls st w => match st with
  | .ref a :: r => (match isS 1000 a with
    | true => Kn mc ms nx ls (.ref (a + 1000) :: r) w
    | false => False)
  | _ => False
theorem s_getSv {M : MM} {pc idx : Nat} (hd : decode M.2.1 pc = .ok (.getfield idx, 3)) (hw : Cond.fieldLink M.1.cls idx "java/lang/String" "value" "[B" ∈ WD) : SO M pc (o_getSv (pc + 3)) := by
  intro d mc ms ls st w K KX Kn gp hK h l p e R s m args below meth c H locs cells slots X ad A n0 ad0 mc0 ms0 la E
  obtain ⟨⟨htr, hx, hb, hml, hr, hown, hts, hlk, hnm⟩, -, hl, ⟨hKK, hP, hD, hS, hA, hR, hG⟩, -⟩ := id E
  simp only [o_getSv] at h
  split at h
  · next a r =>
    split at h
    · next ha =>
      obtain ⟨i, hi, rfl⟩ := isS_ok ha
      obtain ⟨q, hq⟩ := st_at hi
      have h1 := hK _ _ _ _ _ _ h
      rw [show 1000 + i + 1000 = 2000 + i by omega] at h1
      exact vk_getf hx hb (hR.2.1 i q hq).2.2.1 hS hown (hts _ hw) (fun x h => h) hd (h1 E)
    · exact h.elim
  · exact h.elim
def o_getSc (nx : Nat) : OP := fun Kn _ _ _ mc ms ls st w => match st with
  | .ref a :: r => (match isS 1000 a with
    | true => Kn mc ms nx ls (.int (iI 0) :: r) w
    | false => False)
  | _ => False
theorem s_getSc {M : MM} {pc idx : Nat} (hd : decode M.2.1 pc = .ok (.getfield idx, 3)) (hw : Cond.fieldLink M.1.cls idx "java/lang/String" "coder" "B" ∈ WD) : SO M pc (o_getSc (pc + 3)) := by
  intro d mc ms ls st w K KX Kn gp hK h l p e R s m args below meth c H locs cells slots X ad A n0 ad0 mc0 ms0 la E
  obtain ⟨⟨htr, hx, hb, hml, hr, hown, hts, hlk, hnm⟩, -, hl, ⟨hKK, hP, hD, hS, hA, hR, hG⟩, -⟩ := id E
  simp only [o_getSc] at h
  split at h
  · next a r =>
    split at h
    · next ha =>
      obtain ⟨i, hi, rfl⟩ := isS_ok ha
      obtain ⟨q, hq⟩ := st_at hi
      exact vk_getf hx hb (hR.2.1 i q hq).2.1 hS hown (hts _ hw) (fun x h => h) hd (hK _ _ _ _ _ _ h E)
    · exact h.elim
  · exact h.elim
/-- length, element of an array, which may be a String's bytes or a table of digits -/
def o_alenX (nx : Nat) : OP := fun Kn K KX d mc ms ls st w => match st with
  | .ref a :: r => (match isS 2000 a with
    | true => Kn mc ms nx ls (.int (iI (stB (a - 2000)).length) :: r) w
    | false => o_alen nx Kn K KX d mc ms ls (.ref a :: r) w)
  | _ => False
theorem s_alenX {M : MM} {pc : Nat} (hd : decode M.2.1 pc = .ok (.arraylength, 1)) : SO M pc (o_alenX (pc + 1)) := by
  intro d mc ms ls st w K KX Kn gp hK h
  simp only [o_alenX] at h
  split at h
  · next a r =>
    split at h
    · next ha =>
      obtain ⟨i, hi, rfl⟩ := isS_ok ha
      obtain ⟨q, hq⟩ := st_at hi
      intro l p e R s m args below meth c H locs cells slots X ad A n0 ad0 mc0 ms0 la E
      have h1 := hK _ _ _ _ _ _ h
      obtain ⟨⟨htr, hx, hb, hml, hr, hown, hts, hlk, hnm⟩, -, hl, ⟨hKK, hP, hD, hS, hA, hR, hG⟩, -⟩ := id E
      refine va_tlen hx hb (hR.2.1 i q hq).2.2.2 hS (v := iI (stB (2000 + i - 2000)).length) ?_ hd (h1 E)
      rw [show 2000 + i - 2000 = i by omega, stB_at hq]
      exact nI_iI _
    · exact s_alen hd _ _ _ _ _ _ _ _ _ _ hK h
  · exact h.elim
def o_baldX (nx : Nat) : OP := fun Kn K KX d mc ms ls st w => match st with
  | .int i :: .ref a :: r => (match isS 2000 a with
    | true => vp_in i (stB (a - 2000)).length ∧ Kn mc ms nx ls (.int ((stB (a - 2000)).getD i.toNatClampNeg 0) :: r) w
    | false => (match Nat.beq a 3000 with
      | true => vp_in i 100 ∧ Kn mc ms nx ls (.int (digT i.toNatClampNeg) :: r) w
      | false => (match Nat.beq a 3001 with
        | true => vp_in i 100 ∧ Kn mc ms nx ls (.int (digO i.toNatClampNeg) :: r) w
        | false => o_bald nx Kn K KX d mc ms ls (.int i :: .ref a :: r) w)))
  | _ => False
theorem s_baldX {M : MM} {pc : Nat} (hd : decode M.2.1 pc = .ok (.baload, 1)) : SO M pc (o_baldX (pc + 1)) := by
  intro d mc ms ls st w K KX Kn gp hK h
  simp only [o_baldX] at h
  split at h
  · next z a r =>
    split at h
    · next ha =>
      obtain ⟨i, hi, rfl⟩ := isS_ok ha
      obtain ⟨q, hq⟩ := st_at hi
      obtain ⟨hin, h⟩ := h
      intro l p e R s m args below meth c H locs cells slots X ad A n0 ad0 mc0 ms0 la E
      have h1 := hK _ _ _ _ _ _ h
      obtain ⟨⟨htr, hx, hb, hml, hr, hown, hts, hlk, hnm⟩, -, hl, ⟨hKK, hP, hD, hS, hA, hR, hG⟩, -⟩ := id E
      rw [show 2000 + i - 2000 = i by omega, stB_at hq] at hin h1
      exact va_tb hx hb (hR.2.1 i q hq).2.2.2 hS hin rfl hd (h1 E)
    · split at h
      · next ha =>
        rw [Nat.eq_of_beq_eq_true ha]
        obtain ⟨hin, h⟩ := h
        intro l p e R s m args below meth c H locs cells slots X ad A n0 ad0 mc0 ms0 la E
        have h1 := hK _ _ _ _ _ _ h
        obtain ⟨⟨htr, hx, hb, hml, hr, hown, hts, hlk, hnm⟩, -, hl, ⟨hKK, hP, hD, hS, hA, hR, hG⟩, -⟩ := id E
        exact va_tb hx hb hR.1.2.2.1 hS hin rfl hd (h1 E)
      · split at h
        · next ha =>
          rw [Nat.eq_of_beq_eq_true ha]
          obtain ⟨hin, h⟩ := h
          intro l p e R s m args below meth c H locs cells slots X ad A n0 ad0 mc0 ms0 la E
          have h1 := hK _ _ _ _ _ _ h
          obtain ⟨⟨htr, hx, hb, hml, hr, hown, hts, hlk, hnm⟩, -, hl, ⟨hKK, hP, hD, hS, hA, hR, hG⟩, -⟩ := id E
          exact va_tb hx hb hR.1.2.2.2.2.1 hS hin rfl hd (h1 E)
        · exact s_bald hd _ _ _ _ _ _ _ _ _ _ hK h
  · exact h.elim
theorem s_getC {M : MM} {pc idx : Nat} (hd : decode M.2.1 pc = .ok (.getstatic idx, 3)) (hw : Cond.fieldLink M.1.cls idx "java/lang/String" "COMPACT_STRINGS" "Z" ∈ WD) : SO M pc (o_push (.int (iI 1)) (pc + 3)) := by
  intro d mc ms ls st w K KX Kn gp hK h l p e R s m args below meth c H locs cells slots X ad A n0 ad0 mc0 ms0 la E
  have h1 := hK _ _ _ _ _ _ h
  obtain ⟨⟨htr, hx, hb, hml, hr, hown, hts, hlk, hnm⟩, -, hl, ⟨hKK, hP, hD, hS, hA, hR, hG⟩, -⟩ := id E
  exact va_gets hx hb hR.1.1 hS hown (hts _ hw) (fun x h => h) hd (h1 E)
theorem s_getT {M : MM} {pc idx : Nat} (hd : decode M.2.1 pc = .ok (.getstatic idx, 3)) (hw : Cond.fieldLink M.1.cls idx "java/lang/Integer" "DigitTens" "[B" ∈ WD) : SO M pc (o_push (.ref 3000) (pc + 3)) := by
  intro d mc ms ls st w K KX Kn gp hK h l p e R s m args below meth c H locs cells slots X ad A n0 ad0 mc0 ms0 la E
  have h1 := hK _ _ _ _ _ _ h
  obtain ⟨⟨htr, hx, hb, hml, hr, hown, hts, hlk, hnm⟩, -, hl, ⟨hKK, hP, hD, hS, hA, hR, hG⟩, -⟩ := id E
  exact va_gets hx hb hR.1.2.1 hS hown (hts _ hw) (fun x h => h) hd (h1 E)
theorem s_getO {M : MM} {pc idx : Nat} (hd : decode M.2.1 pc = .ok (.getstatic idx, 3)) (hw : Cond.fieldLink M.1.cls idx "java/lang/Integer" "DigitOnes" "[B" ∈ WD) : SO M pc (o_push (.ref 3001) (pc + 3)) := by
  intro d mc ms ls st w K KX Kn gp hK h l p e R s m args below meth c H locs cells slots X ad A n0 ad0 mc0 ms0 la E
  have h1 := hK _ _ _ _ _ _ h
  obtain ⟨⟨htr, hx, hb, hml, hr, hown, hts, hlk, hnm⟩, -, hl, ⟨hKK, hP, hD, hS, hA, hR, hG⟩, -⟩ := id E
  exact va_gets hx hb hR.1.2.2.2.1 hS hown (hts _ hw) (fun x h => h) hd (h1 E)
def o_getSF (nx : Nat) : OP := fun Kn _ _ _ mc ms ls st w => Kn mc ms nx ls (.null :: st) w ∧ Kn mc ms nx ls (.ref 3100 :: st) w
theorem s_getSF {M : MM} {pc idx : Nat} (hd : decode M.2.1 pc = .ok (.getstatic idx, 3)) (hw : Cond.fieldLink M.1.cls idx "jdk/internal/util/Preconditions" "SIOOBE_FORMATTER" "Ljava/util/function/BiFunction;" ∈ WD) : SO M pc (o_getSF (pc + 3)) := by
  intro d mc ms ls st w K KX Kn gp hK h l p e R s m args below meth c H locs cells slots X ad A n0 ad0 mc0 ms0 la E
  have h1 := hK _ _ _ _ _ _ h.1
  have h2 := hK _ _ _ _ _ _ h.2
  obtain ⟨⟨htr, hx, hb, hml, hr, hown, hts, hlk, hnm⟩, -, hl, ⟨hKK, hP, hD, hS, hA, hR, hG⟩, -⟩ := id E
  rcases hR.2.2.2.2.2 with z | z
  · exact va_gets hx hb z hS hown (hts _ hw) (fun x h => h) hd (h1 E)
  · exact va_gets hx hb z hS hown (hts _ hw) (fun x h => h) hd (h2 E)
def o_ifnn (t nx : Nat) : OP := fun Kn _ _ _ mc ms ls st w => match st with
  | .ref _ :: r => Kn mc ms t ls r w
  | _ => False
theorem s_ifnn {M : MM} {pc t : Nat} {off : Int} (hd : decode M.2.1 pc = .ok (.ifnonnull off, 3)) (ht : (pc : Int) + off = (t : Int)) : SO M pc (o_ifnn t (pc + 3)) := by
  intro d mc ms ls st w K KX Kn gp hK h l p e R s m args below meth c H locs cells slots X ad A n0 ad0 mc0 ms0 la E
  obtain ⟨⟨htr, hx, hb, hml, hr0, hown, hts, hlk, hnm⟩, -⟩ := id E
  simp only [o_ifnn] at h
  split at h
  · exact lv_ifnonnull hx hb hd ht (hK _ _ _ _ _ _ h E)
  · exact h.elim
/-- a method of a String constant -/
def o_callVS (M' : MM) (n nx : Nat) : OP := fun Kn _ _ d mc ms ls st w => popA n st [] (fun av rest => match av with
    | .ref a :: as => (match isS 1000 a with
      | true => cI M' 0 0 Kn d mc ms nx ls w (.ref a :: as) rest
      | false => False)
    | _ => False) False
theorem cI_un {M' : MM} {mc1 ms1 : Nat} {Kn : KN} {d mc ms nx : Nat} {ls : PLo} {w : PW} {av rest : List Value} (h : cI M' mc1 ms1 Kn d mc ms nx ls w av rest) : catS rest ≤ 8 ∧ ∃ d', d = d' + 1 ∧ mc1 ≤ mc ∧ ms1 ≤ ms ∧ WP M' d' mc1 ms1 av w (kRc w.length Kn (mc - mc1) (ms - ms1) nx ls rest) noX := by
  unfold cI at h
  split at h
  · next hc =>
    cases d with
    | zero => exact h.elim
    | succ d' => exact ⟨hc, d', rfl, h.1.1, h.1.2, WQ_iff.mp h.2⟩
  · exact h.elim
theorem st_rev (ad : Nat → Nat) (a : Nat) (as rest : List Value) : ((Value.ref a :: as).reverse ++ rest).map (cV ad) = (as.map (cV ad)).reverse ++ .ref (ad a) :: rest.map (cV ad) := by
  rw [List.map_append, List.map_reverse]
  simp [cV]
theorem st_sum (ad : Nat → Nat) {rest : List Value} (h : catS rest ≤ 8) : 2 * 0 + ((rest.map (cV ad)).map fun v => v.category).sum ≤ 8 := by
  rw [catS_eq]
  omega
theorem s_callVS {M M' : MM} {pc idx n : Nat} (hz : tabOf M.1 = []) (hd : decode M.2.1 pc = .ok (.invokevirtual idx, 3)) (ho : mOk M' n) (hC : M'.1.cls = "java/lang/String") (hl : Cond.methodLink M.1.cls idx M'.1 ∈ WD) (hi : Cond.instanceMethod M'.1 ∈ WD) (hs : Cond.selects "java/lang/String" M'.1 M'.1 ∈ WD) : SO M pc (o_callVS M' (n + 1) (pc + 3)) := by
  intro d mc ms ls st w K KX Kn gp hK h
  unfold o_callVS at h
  rcases popA_eq (n + 1) st [] (fun av rest => match av with
    | .ref a :: as => (match isS 1000 a with
      | true => cI M' 0 0 Kn d mc ms (pc + 3) ls w (.ref a :: as) rest
      | false => False)
    | _ => False) False with ⟨av, rest, e1, e2, e3⟩ | e3
  · rw [e3, List.append_nil] at h
    rw [e1]
    split at h
    · next a as =>
      split at h
      · next ha =>
        obtain ⟨i, hi9, rfl⟩ := isS_ok ha
        obtain ⟨q, hq⟩ := st_at hi9
        obtain ⟨hc8, d', rfl, g1, g2, h⟩ := cI_un h
        intro l p e R s m args below meth c H locs cells slots X ad A n0 ad0 mc0 ms0 la E
        obtain ⟨⟨htr, hx, hb, hml, hr0, hown, hts, hlk, hnm⟩, ⟨q1, q2, q3, q4, q5, q6, q7, q8⟩, hlv, ⟨hKK, hP, hD, hS, hA, hR, hG⟩, hnt⟩ := id E
        have hM := h (l := l) (X := X) (ad := ad) (sz := H.size) htr (by omega) (by omega)
        rw [cdOf_n ho.2.2.2.2.2.2] at hM
        have cw := cwV (R := R) (rm := { frames := d', cells := 0, slots := 0, locals := 40 * d' }) n hts (good_app (a := [.methodLink M.1.cls idx M'.1, .instanceMethod M'.1, .selects "java/lang/String" M'.1 M'.1, .initialized "java/lang/String"]) (fun w hw => by
          simp only [List.mem_cons, List.not_mem_nil, or_false] at hw
          rcases hw with rfl | rfl | rfl | rfl
          · exact hl
          · exact hi
          · exact hs
          · rw [← hC]; exact ho.2.1) (good_code ho)) rfl rfl rfl ⟨hC, ho.2.2.1, ho.2.2.2.1, ho.2.2.2.2.1⟩ (room_le ho.2.2.2.2.2.1 rfl q1 q2)
        obtain ⟨cell, c1, c2, c3, -⟩ := ((hR.2.1 i q hq).1.kept hS.2.1)
        have hM := met_of_vx (fun E9 s9 t9 hx9 => by obtain ⟨⟨w9, ad9, hf, -⟩, -⟩ := hx9; exact hf) hM
        refine call_use (mc1 := 0) (ms1 := 0) (rest := rest) hz hK E g1 g2 (fun r w' hk => ⟨Or.inl rfl, (kRc_un hk).2⟩) (vx_of_va (va_runV (As := as.map (cV ad)) (b := ad (1000 + i)) (C := "java/lang/String") ⟨hx, hb, hml, hown, hts⟩ hM cw ⟨CPc_blind, ⟨cell, c1, c2, c3⟩, EE_pre E (.ref (1000 + i) :: as)⟩ rfl ?_ hlv.1 (st_rev ad _ as rest) (st_sum ad hc8) hd ⟨by omega, by omega⟩))
        rw [List.length_map]
        simpa using e2
      · exact h.elim
    · exact h.elim
  · rw [e3] at h
    exact h.elim
/-- an inherited method, found by the receiver (a StringBuilder) -/
def o_callU (M' : MM) (n mc1 ms1 nx : Nat) : OP := fun Kn _ _ d mc ms ls st w => popA n st [] (cR 9 w (cI M' mc1 ms1 Kn d mc ms nx ls w)) False
theorem s_callU {M M' : MM} {pc idx n mc1 ms1 : Nat} {x : MethodName} (hz : tabOf M.1 = []) (hd : decode M.2.1 pc = .ok (.invokevirtual idx, 3)) (ho : mOk M' n) (hx9 : M'.1 = ⟨M'.1.cls, x.name, x.desc⟩) (hp9 : (parseMethodDescriptor x.desc).map (fun d => d.parameters.length) = some n)
    (w1 : Cond.methodLink M.1.cls idx x ∈ WD) (w2 : Cond.sameMethod x.cls M'.1.cls x.name x.desc ∈ WD) (w3 : Cond.selects "java/lang/StringBuilder" x M'.1 ∈ WD) (w4 : Cond.instanceMethod M'.1 ∈ WD) : SO M pc (o_callU M' (n + 1) mc1 ms1 (pc + 3)) := by
  intro d mc ms ls st w K KX Kn gp hK h
  unfold o_callU at h
  rcases popA_eq (n + 1) st [] (cR 9 w (cI M' mc1 ms1 Kn d mc ms (pc + 3) ls w)) False with ⟨av, rest, e1, e2, e3⟩ | e3
  · rw [e3, List.append_nil] at h
    rw [e1]
    unfold cR at h
    split at h
    · next a as =>
      split at h
      · next c9 fs hg =>
        split at h
        · next hci =>
          subst hci
          obtain ⟨hc8, d', rfl, g1, g2, h⟩ := cI_un h
          intro l p e R s m args below meth c H locs cells slots X ad A n0 ad0 mc0 ms0 la E
          obtain ⟨⟨htr, hx, hb, hml, hr0, hown, hts, hlk, hnm⟩, ⟨q1, q2, q3, q4, q5, q6, q7, q8⟩, hlv, ⟨hKK, hP, hD, hS, hA, hR, hG⟩, hnt⟩ := id E
          have hM := h (l := l) (X := X) (ad := ad) (sz := H.size) htr (by omega) (by omega)
          rw [cdOf_n ho.2.2.2.2.2.2] at hM
          have hM := met_of_vx (fun E9 s9 t9 hx9 => by obtain ⟨⟨w9, ad9, hf, -⟩, -⟩ := hx9; exact hf) hM
          have cw := va_cwU (R := R) (C := "java/lang/StringBuilder") (owner := M'.1.cls) (x := x) (rm := { frames := d', cells := mc1, slots := ms1, locals := 40 * d' }) n hts (good_app (a := [.methodLink M.1.cls idx x, .sameMethod x.cls M'.1.cls x.name x.desc, .selects "java/lang/StringBuilder" x M'.1, .instanceMethod M'.1, .initialized M'.1.cls]) (fun w hw => by
            simp only [List.mem_cons, List.not_mem_nil, or_false] at hw
            rcases hw with rfl | rfl | rfl | rfl | rfl
            · exact w1
            · exact w2
            · exact w3
            · exact w4
            · exact ho.2.1) (good_code ho)) rfl rfl rfl hx9 ⟨ho.2.2.1, ho.2.2.2.1, hp9⟩ (room_le ho.2.2.2.2.2.1 rfl q1 q2)
          refine call_use (mc1 := mc1) (ms1 := ms1) (rest := rest) hz hK E g1 g2 (fun r w' hk => ⟨Or.inr (kRc_un hk).1, (kRc_un hk).2⟩) (vx_of_va (va_runU (As := as.map (cV ad)) (b := ad a) (C := "java/lang/StringBuilder") ⟨hx, hb, hml, hown, hts⟩ hM cw ⟨CPc_blind, va_recv hKK hP (ci := 9) rfl (cW_at (by rw [← gW_eq]; exact hg)), EE_pre E (.ref a :: as)⟩ rfl ?_ hlv.1 (st_rev ad _ as rest) (st_sum ad hc8) hd ⟨by omega, by omega⟩))
          rw [List.length_map]
          simpa using e2
        · exact h.elim
      · exact h.elim
    · exact h.elim
  · rw [e3] at h
    exact h.elim
/-- super.m(..) of a StringBuilder -/
theorem s_callSU {M M' : MM} {pc idx n mc1 ms1 : Nat} (hz : tabOf M.1 = []) (hd : decode M.2.1 pc = .ok (.invokespecial idx, 3)) (ho : mOk M' n) (hn9 : M'.1.name ≠ "<init>")
    (w1 : Cond.methodLink M.1.cls idx M'.1 ∈ WD) (w2 : Cond.sameMethod M'.1.cls M'.1.cls M'.1.name M'.1.desc ∈ WD) (w3 : Cond.superclass M.1.cls M'.1.cls ∈ WD) (w4 : Cond.instanceMethod M'.1 ∈ WD) : SO M pc (o_callU M' (n + 1) mc1 ms1 (pc + 3)) := by
  intro d mc ms ls st w K KX Kn gp hK h
  unfold o_callU at h
  rcases popA_eq (n + 1) st [] (cR 9 w (cI M' mc1 ms1 Kn d mc ms (pc + 3) ls w)) False with ⟨av, rest, e1, e2, e3⟩ | e3
  · rw [e3, List.append_nil] at h
    rw [e1]
    unfold cR at h
    split at h
    · next a as =>
      split at h
      · next c9 fs hg =>
        split at h
        · next hci =>
          subst hci
          obtain ⟨hc8, d', rfl, g1, g2, h⟩ := cI_un h
          intro l p e R s m args below meth c H locs cells slots X ad A n0 ad0 mc0 ms0 la E
          obtain ⟨⟨htr, hx, hb, hml, hr0, hown, hts, hlk, hnm⟩, ⟨q1, q2, q3, q4, q5, q6, q7, q8⟩, hlv, ⟨hKK, hP, hD, hS, hA, hR, hG⟩, hnt⟩ := id E
          have hM := h (l := l) (X := X) (ad := ad) (sz := H.size) htr (by omega) (by omega)
          rw [cdOf_n ho.2.2.2.2.2.2] at hM
          have hM := met_of_vx (fun E9 s9 t9 hx9 => by obtain ⟨⟨w9, ad9, hf, -⟩, -⟩ := hx9; exact hf) hM
          have cw := va_cwSU (R := R) (own := M.1.cls) (index := idx) (y := M'.1) (rm := { frames := d', cells := mc1, slots := ms1, locals := 40 * d' }) n hts (good_app (a := [.methodLink M.1.cls idx M'.1, .sameMethod M'.1.cls M'.1.cls M'.1.name M'.1.desc, .superclass M.1.cls M'.1.cls, .instanceMethod M'.1, .initialized M'.1.cls]) (fun w hw => by
            simp only [List.mem_cons, List.not_mem_nil, or_false] at hw
            rcases hw with rfl | rfl | rfl | rfl | rfl
            · exact w1
            · exact w2
            · exact w3
            · exact w4
            · exact ho.2.1) (good_code ho)) rfl rfl rfl ⟨hn9, ho.2.2.2.2.1⟩ (room_le ho.2.2.2.2.2.1 rfl q1 q2)
          have hat : ClassAt s "java/lang/StringBuilder" (X.1.1 9) := (hKK.1 9 _ rfl).2
          refine call_use (mc1 := mc1) (ms1 := ms1) (rest := rest) hz hK E g1 g2 (fun r w' hk => ⟨Or.inr (kRc_un hk).1, (kRc_un hk).2⟩) (vx_of_va (va_runSU (As := as.map (cV ad)) (b := ad a) (C := "java/lang/StringBuilder") hat ⟨hx, hb, hml, hown, hts⟩ hM cw ⟨CPc_blind, va_recv hKK hP (ci := 9) rfl (cW_at (by rw [← gW_eq]; exact hg)), EE_pre E (.ref a :: as)⟩ rfl ?_ hlv.1 (st_rev ad _ as rest) (st_sum ad hc8) hd ⟨by omega, by omega⟩))
          rw [List.length_map]
          simpa using e2
        · exact h.elim
      · exact h.elim
    · exact h.elim
  · rw [e3] at h
    exact h.elim
/-- System.arraycopy of bytes, within an array or out of a String's bytes -/
def o_copy (nx : Nat) : OP := fun Kn _ _ d mc ms ls st w => match st with
  | .int n :: .int dp :: .ref a :: .int sp :: .ref b :: r => (match d with
    | _ + 1 => (match Nat.ble (catS r) 8 with
      | true => (match gW w a with
        | some (.inl (t, n1, .inl g)) => if t = 0 then (match isS 2000 b with
          | true => (0 ≤ n.toInt ∧ 0 ≤ dp.toInt ∧ 0 ≤ sp.toInt ∧ sp.toInt.toNat + n.toInt.toNat ≤ (stB (b - 2000)).length ∧ dp.toInt.toNat + n.toInt.toNat ≤ n1) ∧ kW (.inl (t, n1, .inl (va_cpy (fun j => (stB (b - 2000)).getD j 0) g sp.toInt.toNat dp.toInt.toNat n.toInt.toNat))) w a (fun w => Kn mc ms nx ls r w)
          | false => (match gW w b with
            | some (.inl (t2, n0, .inl f)) => if t2 = 0 then (0 ≤ n.toInt ∧ 0 ≤ dp.toInt ∧ 0 ≤ sp.toInt ∧ sp.toInt.toNat + n.toInt.toNat ≤ n0 ∧ dp.toInt.toNat + n.toInt.toNat ≤ n1 ∧ ∀ i, i < n.toInt.toNat → fits .byte (.int (f (sp.toInt.toNat + i))) = true) ∧ kW (.inl (t, n1, .inl (va_cpy f g sp.toInt.toNat dp.toInt.toNat n.toInt.toNat))) w a (fun w => Kn mc ms nx ls r w) else False
            | _ => False)) else False
        | _ => False)
      | false => False)
    | 0 => False)
  | _ => False
theorem s_copy {M : MM} {pc idx : Nat} (hd : decode M.2.1 pc = .ok (.invokestatic idx, 3)) (w1 : Cond.methodLink M.1.cls idx arraycopyName ∈ WD) (w2 : Cond.native arraycopyName ∈ WD) (w3 : Cond.static arraycopyName ∈ WD) (w4 : Cond.initialized "java/lang/System" ∈ WD) : SO M pc (o_copy (pc + 3)) := by
  intro d mc ms ls st w K KX Kn gp hK h l p e R s m args below meth c H locs cells slots X ad A n0 ad0 mc0 ms0 la E
  obtain ⟨⟨htr, hx, hb, hml, hr, hown, hts, hlk, hnm⟩, ⟨q1, q2, q3, q4, q5, q6, q7, q8⟩, hl, ⟨hKK, hP, hD, hS, hA, hR, hG⟩, -⟩ := id E
  have hnat : nativeFrameWords "java/lang/System" "arraycopy" 5 ≤ 21 := by decide +kernel
  simp only [o_copy] at h
  split at h
  · next n dp a sp b r =>
    split at h
    · next d' =>
      split at h
      · next hc =>
        have hc := Nat.le_of_ble_eq_true hc
        have hlo : ((r.map (cV ad)).map fun v => v.category).sum + (nativeFrameWords "java/lang/System" "arraycopy" 5 + 11) ≤ R.locals := by
          rw [catS_eq]
          omega
        split at h
        · next t n1 g hg =>
          split at h
          · next ht =>
            subst ht
            split at h
            · next hbS =>
              obtain ⟨i, hi9, rfl⟩ := isS_ok hbS
              obtain ⟨q, hq⟩ := st_at hi9
              obtain ⟨⟨z1, z2, z3, z4, z5⟩, h⟩ := h
              rw [kW_eq] at h
              have h1 := hK _ _ _ _ _ _ h
              rw [show 2000 + i - 2000 = i by omega, stB_at hq] at z4
              refine vk_copyt hx hb (by rw [hml]; exact hl.1.symm) hown (hts _ w1) (hts _ w2) (hts _ w3) (hts _ w4) hKK hP hD hS (hR.2.1 i q hq).2.2.2 a 0 (cW_at (by rw [← gW_eq]; exact hg)) rfl (nneg z3).1 (nneg z2).1 (nneg z1).1 z4 z5 (fun j _ => by rw [← stB_at hq]; exact stB_fit i _) (by omega) hlo hd (fun H1 locs1 gP gD gS => ?_)
              have e1 : (fun j => (stB (2000 + i - 2000)).getD j 0) = fun j => q.2.2.2.getD j 0 := by
                rw [show 2000 + i - 2000 = i by omega, stB_at hq]
              rw [e1] at h1
              exact h1 (put_EE E gP gD gS)
            · split at h
              · next t2 m0 f hf =>
                split at h
                · next ht2 =>
                  subst ht2
                  obtain ⟨⟨z1, z2, z3, z4, z5, z6⟩, h⟩ := h
                  rw [kW_eq] at h
                  have h1 := hK _ _ _ _ _ _ h
                  refine va_copyi hx hb (by rw [hml]; exact hl.1.symm) hown (hts _ w1) (hts _ w2) (hts _ w3) (hts _ w4) hKK hP hD hS b a 0 0 (ty := .byte) (cW_at (by rw [← gW_eq]; exact hf)) (cW_at (by rw [← gW_eq]; exact hg)) rfl rfl rfl (nneg z3).1 (nneg z2).1 (nneg z1).1 z4 z5 z6 (by omega) hlo hd (fun H1 locs1 gP gD gS => ?_)
                  exact h1 (put_EE E gP gD gS)
                · exact h.elim
              · exact h.elim
          · exact h.elim
        · exact h.elim
      · exact h.elim
    · exact h.elim
  · exact h.elim
