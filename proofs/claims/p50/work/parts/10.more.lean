/-! MORE OPERATIONS: calls of a nest mate's private static methods; switches. -/
theorem met_of_vx {l : Launch} {y : MethodName} {ws : List Cond} {rm : Room} {Pc : Array Value → State → Prop} {Qc : Array Value → State → Outcome → State → Prop} {mc ms : Nat} {free : Addr → Prop} {XC : String → State → State → Prop} (hX : ∀ E s t, XC E s t → False) (h : vx_Met l y ws rm Pc Qc XC mc ms free) : Met l y ws rm Pc Qc mc ms free := by
  intro p e h1 h2 h3 s m args below h4 h5 h6 h7
  obtain ⟨n, o, a, b, c, q⟩ := h p e h1 h2 h3 s m args below h4 h5 h6 h7
  refine ⟨n, o, a, b, c, ?_⟩
  rcases q with q | ⟨q, -, E, ce, L, hx, -⟩
  · exact q
  · exact (hX _ _ _ hx).elim
theorem vx_of_va {p : Program} {l : Launch} {e : Env} {R : Room} {s : State} {m : MethodId} {args : Array Value} {below : List Frame} {meth : Method} {c : Code} {H : Heap} {locs : List Loc} {cells slots mc ms : Nat} {g : JFrame} {rest : List Value} {Qa : State → Outcome → State → Prop} {XC : String → State → State → Prop} {free : Addr → Prop} (h : va_Run p l e R s m args below meth c H locs cells slots mc ms g rest Qa free) : vx_Run p l e R s m args below meth c H locs cells slots mc ms g rest Qa XC free := by
  intro T hT X
  exact Or.inl (h T hT X)
def noX : String → PW → Prop := fun _ _ => False
def cN (M' : MM) (Kn : KN) (d mc ms nx : Nat) (ls : PLo) (w : PW) (av rest : List Value) : Prop := if catS rest ≤ 8 then (match d with
    | d' + 1 => WQ M' d' 0 0 av w (kR Kn mc ms nx ls rest) noX
    | 0 => False) else False
def o_callN (M' : MM) (n nx : Nat) : OP := fun Kn _ _ d mc ms ls st w => popA n st [] (cN M' Kn d mc ms nx ls w) False
theorem s_callN {M M' : MM} {pc idx n k : Nat} {host : String} (hz : tabOf M.1 = []) (hd : decode M.2.1 pc = .ok (.invokestatic idx, 3)) (ho : mOk M' n) (hl : nestTab[k]? = some (M.1.cls, idx, M'.1, host)) (hs : Cond.static M'.1 ∈ WD) : SO M pc (o_callN M' n (pc + 3)) := by
  intro d mc ms ls st w K KX Kn gp hK h
  unfold o_callN at h
  rcases popA_eq n st [] (cN M' Kn d mc ms (pc + 3) ls w) False with ⟨av, rest, e1, e2, e3⟩ | e3
  · rw [e3, List.append_nil] at h
    rw [e1]
    unfold cN at h
    split at h
    · next hc8 =>
      intro l p e R s m args below meth c H locs cells slots X ad A n0 ad0 mc0 ms0 la E
      obtain ⟨⟨htr, hx, hb, hml, hr0, hown, hts, hlk, hnm⟩, ⟨q1, q2, q3, q4, q5, q6, q7, q8⟩, hlv, ⟨hKK, hP, hD, hS, hA, hR, hG⟩, hnt⟩ := id E
      cases d with
      | zero => exact h.elim
      | succ d' =>
        have hM := (WQ_iff.mp h) (l := l) (X := X) (ad := ad) (sz := H.size) htr (by omega) (by omega)
        rw [cdOf_n ho.2.2.2.2.2.2] at hM
        have hM := met_of_vx (fun E9 s9 t9 hx9 => by obtain ⟨⟨w9, ad9, hf, -⟩, -⟩ := hx9; exact hf) hM
        have hnw : va_Nw (.methodLinkNest M.1.cls idx M'.1 host) s := hR.2.2.2.1 _ (List.mem_of_getElem? hl)
        have cw := va_cnB (own := M.1.cls) (index := idx) (host := host) (R := R) (s := s) (args := args) (rm := { frames := d', cells := 0, slots := 0, locals := 40 * d' }) n hts (good_code ho) rfl rfl rfl hnw (hts _ ho.2.1) ⟨ho.2.2.1, ho.2.2.2.1, ho.2.2.2.2.1⟩ (room_le ho.2.2.2.2.2.1 rfl q1 q2)
        refine call_use (mc1 := 0) (ms1 := 0) (rest := rest) hz hK E (Nat.zero_le _) (Nat.zero_le _) (fun r w' hk => ⟨Or.inl rfl, hk⟩) (vx_of_va (va_runSN (As := av.map (cV ad)) ⟨hx, hb, hml, hown, hts⟩ hM ⟨cw, hts _ hs, trivial⟩ ⟨CPc_blind, EE_pre E av⟩ rfl (by rw [List.length_map]; exact e2) hlv.1 ?_ ?_ hd ⟨by omega, by omega⟩))
        · show (av.reverse ++ rest).map (cV ad) = (av.map (cV ad)).reverse ++ rest.map (cV ad)
          rw [List.map_append, List.map_reverse]
        · show 2 * 0 + ((rest.map (cV ad)).map fun v => v.category).sum ≤ 8
          rw [catS_eq]
          omega
    · exact h.elim
  · rw [e3] at h
    exact h.elim
/-- a switch over lo, lo + 1 ..: by cases -/
def swK (Kn : KN) (x : Int) (mc ms : Nat) (ls : PLo) (r : List Value) (w : PW) : Int → List Nat → Prop
  | _, [] => True
  | lo, t :: ts => (x = lo → Kn mc ms t ls r w) ∧ swK Kn x mc ms ls r w (lo + 1) ts
def o_tsw (lo : Int) (ts : List Nat) (dfl : Nat) : OP := fun Kn _ _ _ mc ms ls st w => match st with
  | .int x :: r => swK Kn x.toInt mc ms ls r w lo ts ∧ ((x.toInt < lo ∨ lo + (ts.length : Int) ≤ x.toInt) → Kn mc ms dfl ls r w)
  | _ => False
theorem swK_at {Kn : KN} {x : Int} {mc ms : Nat} {ls : PLo} {r : List Value} {w : PW} : ∀ (lo : Int) (ts : List Nat) (k t : Nat), swK Kn x mc ms ls r w lo ts → ts[k]? = some t → x = lo + k → Kn mc ms t ls r w
  | lo, [], k, t, _, h, _ => by simp at h
  | lo, t0 :: ts, 0, t, hs, h, hx => by
    simp only [List.getElem?_cons_zero, Option.some.injEq] at h
    subst h
    exact hs.1 (by omega)
  | lo, t0 :: ts, k + 1, t, hs, h, hx => swK_at (lo + 1) ts k t hs.2 (by simpa using h) (by omega)
theorem s_tsw {M : MM} {pc len dflN : Nat} {lo hi dfl : Int} {offs : Array Int} {ts : List Nat} (hd : decode M.2.1 pc = .ok (.tableswitch dfl lo hi offs, len)) (hh : hi = lo + (ts.length : Int) - 1) (ht : (pc : Int) + dfl = (dflN : Int)) (hts9 : ∀ (k t : Nat), ts[k]? = some t → ∃ o, offs[k]? = some o ∧ (pc : Int) + o = (t : Int)) : SO M pc (o_tsw lo ts dflN) := by
  intro d mc ms ls st w K KX Kn gp hK h l p e R s m args below meth c H locs cells slots X ad A n0 ad0 mc0 ms0 la E
  obtain ⟨⟨htr, hx, hb, hml, hr0, hown, hts, hlk, hnm⟩, -⟩ := id E
  simp only [o_tsw] at h
  split at h
  · next x r =>
    obtain ⟨h1, h2⟩ := h
    by_cases hin : x.toInt < lo ∨ hi < x.toInt
    · exact lv_tableOut hx hb hd hin ht (hK _ _ _ _ _ _ (h2 (by omega)) E)
    · have hk : (x.toInt - lo).toNat < ts.length := by omega
      obtain ⟨o, ho1, ho2⟩ := hts9 _ _ (List.getElem?_eq_getElem hk)
      exact lv_tableIn hx hb hd (by omega) (by omega) ho1 ho2 (hK _ _ _ _ _ _ (swK_at lo ts _ _ h1 (List.getElem?_eq_getElem hk) (by omega)) E)
  · exact h.elim
def o_ifnull (t nx : Nat) : OP := fun Kn _ _ _ mc ms ls st w => match st with
  | .ref _ :: r => Kn mc ms nx ls r w
  | .null :: r => Kn mc ms t ls r w
  | _ => False
theorem s_ifnull {M : MM} {pc t : Nat} {off : Int} (hd : decode M.2.1 pc = .ok (.ifnull off, 3)) (ht : (pc : Int) + off = (t : Int)) : SO M pc (o_ifnull t (pc + 3)) := by
  intro d mc ms ls st w K KX Kn gp hK h l p e R s m args below meth c H locs cells slots X ad A n0 ad0 mc0 ms0 la E
  obtain ⟨⟨htr, hx, hb, hml, hr0, hown, hts, hlk, hnm⟩, -⟩ := id E
  simp only [o_ifnull] at h
  split at h
  · exact lv_ifnull hx hb hd (hK _ _ _ _ _ _ h E)
  · exact lv_ifnullN hx hb hd ht (hK _ _ _ _ _ _ h E)
  · exact h.elim
/-! String constants: the place 1000 + i -/
theorem s_ldcS {M : MM} {pc idx i : Nat} {tx : String} {by9 : List Int32} (hd : decode M.2.1 pc = .ok (.ldc idx, 2)) (hq : stTab[i]? = some (M.1.cls, idx, tx, by9)) : SO M pc (o_push (.ref (1000 + i)) (pc + 2)) := by
  intro d mc ms ls st w K KX Kn gp hK h l p e R s m args below meth c H locs cells slots X ad A n0 ad0 mc0 ms0 la E
  have h1 := hK _ _ _ _ _ _ h
  obtain ⟨⟨htr, hx, hb, hml, hr, hown, hts, hlk, hnm⟩, -, hl, ⟨hKK, hP, hD, hS, hA, hR, hG⟩, -⟩ := id E
  exact va_ldcS hx hb hown (hR.2.2.1 i _ hq) hd (h1 E)
theorem ldcSW9 {p : Program} {l : Launch} {e : Env} {R : Room} {s : State} {m : MethodId} {args : Array Value} {below : List Frame} {meth : Method} {c : Code} {T : State} {locs : List Loc} {cells slots : Nat}
    (X : Stand p l e R s m args below meth c T locs cells slots) (hexec : p.tables.exec = Jvm.exec) {own text : String} {index : Nat} {a : Addr} (hown : s.vm.findClass own = some m.cls)
    (hconst : (Cond.stringRef own index text).before args s = true) (hev : (Term.string own index).eval args s none [] s = some (.ref a)) {g : JFrame} (hg : g.method = m) (hdg : decode c.code g.pc = .ok (.ldc_w index, 3)) :
    ∀ target, Steps p.tables e below (T.setTop { g with pc := g.pc + 3, stack := .ref a :: g.stack }) target → Steps p.tables e below (T.setTop g) target := by
  obtain ⟨k, cf, i, a', hk, hcf, hcp, -, hr, hev'⟩ := Cond.stringRef_spec hown hconst
  cases hev.symm.trans hev'
  obtain ⟨k', hk', he⟩ := X.warmed.alike.2.2 _ _ hk
  have hr' : k'.resolved[index]? = some (some (.string a)) := by
    rcases X.warmed.entry hk hk' index with h | ⟨h, -⟩
    · rw [h]; exact hr
    · rw [hr] at h; cases h
  intro target hrest
  subst hg
  jvm_step X.here [hexec, hdg, ldc_w.wp_string (e := e) (s := T) (f := g) X.here.top hk' (by rw [he]; exact hcf) hcp hr']
  exact hrest
theorem lv_ldcSW {p : Program} {l : Launch} {e : Env} {R : Room} {s : State} {m : MethodId} {args : Array Value} {below : List Frame} {meth : Method} {c : Code} {H : Heap} {locs : List Loc} {cells slots : Nat} {Q : State → Prop} {pc : Nat} {ls : Array Slot} {rest : List Value} {cc : ByteArray} (hexec : p.tables.exec = Jvm.exec) (hb : c.code = cc) {own tx : String} {index q : Nat} (hown : s.vm.findClass own = some m.cls) (hZ : vk_R own index tx q s) (hdg : decode cc pc = .ok (.ldc_w index, 3))
    (k : W p l e R s m args below meth c H locs cells slots Q (F0 m (pc + 3) ls (.ref q :: rest))) : W p l e R s m args below meth c H locs cells slots Q (F0 m pc ls rest) := by
  intro T hT X
  obtain ⟨t, a1, b1⟩ := k T hT X
  exact ⟨t, ldcSW9 X hexec hown (text := tx) (a := q) hZ.1 hZ.2 (g := F0 m pc ls rest) rfl (by rw [hb]; exact hdg) t a1, b1⟩
theorem s_ldcSW {M : MM} {pc idx i : Nat} {tx : String} {by9 : List Int32} (hd : decode M.2.1 pc = .ok (.ldc_w idx, 3)) (hq : stTab[i]? = some (M.1.cls, idx, tx, by9)) : SO M pc (o_push (.ref (1000 + i)) (pc + 3)) := by
  intro d mc ms ls st w K KX Kn gp hK h l p e R s m args below meth c H locs cells slots X ad A n0 ad0 mc0 ms0 la E
  have h1 := hK _ _ _ _ _ _ h
  obtain ⟨⟨htr, hx, hb, hml, hr, hown, hts, hlk, hnm⟩, -, hl, ⟨hKK, hP, hD, hS, hA, hR, hG⟩, -⟩ := id E
  exact lv_ldcSW hx hb hown (hR.2.2.1 i _ hq) hd (h1 E)
