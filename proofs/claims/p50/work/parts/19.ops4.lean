/-! CATCHING, in the law's own methods: the handler gives back a number -/
def HC (M : MM) (pc : Nat) (t : Nat × Nat × Nat × Nat) (nm : String) (k : Int) : Prop :=
  covers ⟨t.1, t.2.1, t.2.2.1, t.2.2.2⟩ pc = true ∧ t.2.2.2 ≠ 0 ∧ Cond.classLink M.1.cls t.2.2.2 nm ∈ WD ∧ Cond.castable nm nm ∈ xtra ∧
  ∃ pc2, ((∃ j : Fin 4, decode M.2.1 t.2.2.1 = .ok (.astore_n j, 1) ∧ (j : Nat) < M.2.2.1 ∧ pc2 = t.2.2.1 + 1) ∨ (∃ j : Nat, decode M.2.1 t.2.2.1 = .ok (.astore j, 2) ∧ j < M.2.2.1 ∧ pc2 = t.2.2.1 + 2)) ∧ decode M.2.1 pc2 = .ok (.iconst k, 1) ∧ decode M.2.1 (pc2 + 1) = .ok (.ireturn, 1)
def HL (M : MM) (pc : Nat) : List (Nat × Nat × Nat × Nat) → List (String × Int) → Prop
  | [], [] => True
  | t :: ts, (nm, k) :: hs => HC M pc t nm k ∧ (∀ q ∈ hs, (q.1, nm) ∈ ncTab) ∧ HL M pc ts hs
  | _, _ => False
def hKX (K : Option Value → PW → Prop) : List (String × Int) → String → PW → Prop
  | [], _, _ => False
  | (n, k) :: t, E, w => (E = n → K (some (.int (iI k))) w) ∧ (¬ E = n → hKX K t E w)
theorem catch_go {M : MM} {pc : Nat} {ls : PLo} {l : Launch} {p : Program} {e : Env} {R : Room} {s : State} {m : MethodId} {args : Array Value} {below : List Frame} {meth : Method} {c : Code} {H : Heap} {locs : List Loc} {cells slots : Nat} {X : XX} {ad adR : Nat → Nat} {A : Nat → Prop} {n0 : Nat} {ad0 : Nat → Nat} {mc0 ms0 : Nat} {la : Array Slot} {K : Option Value → PW → Prop} {KX : String → PW → Prop} {w : PW} {rest : List Value} {q : Addr} {ce : Cell} {E9 : String}
    (hx : p.tables.exec = Jvm.exec) (hb : c.code = M.2.1) (hr0 : meth.sig.returnType = M.2.2.2) (hown : s.vm.findClass M.1.cls = some m.cls) (hts : ∀ w ∈ WD, w.before args s = true) (hlk : meth.locks = false) (hret : M.2.2.2 = some .int)
    (hR : RO adR A s s.heap) {adL : Nat → Nat} (hl : lv_has la M.2.2.1 (prs adL ls)) (hcell : H[q]? = some ce) (hv : ce.vm = .none) (hcl : s.vm.findClass E9 = some ce.cls)
    (hlen : w.length ≤ n0 + mc0) (hP : va_P X.1 classes (cW X.2 ad w) H) (hD : va_D A (cW X.2 ad w)) (hS : va_S A s.heap H locs) (hG : AG n0 w.length ad0 ad) (hmc : cells ≤ mc0) (hms : slots ≤ ms0) :
    ∀ (tab : List (Nat × Nat × Nat × Nat)) (hand : List (String × Int)) (pre : List ExceptionTableEntry), HL M pc tab hand → c.exceptionTable.toList = pre ++ tableOf tab →
      (∀ z ∈ pre, z.catchType ≠ 0 ∧ ∃ nm : String, (Cond.classLink M.1.cls z.catchType nm).before args s = true ∧ ∀ x ∈ hand, va_Nc x.1 nm s) → hKX K hand E9 w →
      vx_W p l e R s m args below meth c H locs cells slots (vx_MQ below (QQ X n0 mc0 ad0 A K) (QX X n0 mc0 ad0 A KX) args s mc0 ms0 A) (F0 m pc la rest) q
  | [], [], pre, _, _, _, h => h.elim
  | [], _ :: _, pre, hh, _, _, _ => hh.elim
  | _ :: _, [], pre, hh, _, _, _ => hh.elim
  | t :: ts, (nm, k) :: hs, pre, hh, htab, hpre, h => by
    obtain ⟨⟨c1, c2, c3, c4, pc2, c5, c6, c7⟩, hnc, hh⟩ := hh
    by_cases hE : E9 = nm
    · have hk := h.1 hE
      subst hE
      refine vx_catch hown pre ⟨t.1, t.2.1, t.2.2.1, t.2.2.2⟩ (tableOf ts) htab (fun z hz => ?_) c1 c2 (hts _ c3) (va_Nw.use (xtra_on _ c4) (hR.2.2.2.2.1.1 _ c4)) hcell hv hcl ?_
      · obtain ⟨z1, nm', z2, z3⟩ := hpre z hz
        exact Or.inr ⟨z1, nm', z2, z3 _ List.mem_cons_self⟩
      · have fin : ∀ la' : Array Slot, W p l e R s m args below meth c H locs cells slots (vx_MQ below (QQ X n0 mc0 ad0 A K) (QX X n0 mc0 ad0 A KX) args s mc0 ms0 A) (F0 m pc2 la' []) := by
          intro la'
          refine lv_iconst hx hb c6 rfl ?_
          refine vx_ret (W.widen (k := mc0) (n := ms0) hmc hms ?_)
          exact W.iret hx hb (hr0.trans hret) (fun t9 ht _ => ret_QQ hk hlen hP hD hS hG ht) hS.2.2 c7 hlk
        rcases c5 with ⟨j, d1, d2, d3⟩ | ⟨j, d1, d2, d3⟩
        · subst d3
          exact lv_astore_n hx hb d1 rfl hl d2 rfl (fun la' _ => fin la')
        · subst d3
          exact lv_astore hx hb d1 hl d2 rfl (fun la' _ => fin la')
    · refine catch_go hx hb hr0 hown hts hlk hret hR hl hcell hv hcl hlen hP hD hS hG hmc hms ts hs (pre ++ [⟨t.1, t.2.1, t.2.2.1, t.2.2.2⟩]) hh ?_ (fun z hz => ?_) (h.2 hE)
      · rw [htab, List.append_assoc]
        rfl
      · rcases List.mem_append.mp hz with hz | hz
        · obtain ⟨z1, nm', z2, z3⟩ := hpre z hz
          exact ⟨z1, nm', z2, fun x hx9 => z3 x (List.mem_cons_of_mem _ hx9)⟩
        · rw [List.mem_singleton.mp hz]
          exact ⟨c2, nm, hts _ c3, fun x hx9 => hR.2.2.2.2.1.2.1 _ (hnc x hx9)⟩
theorem call_useC {gp : GP} {M : MM} {d mc ms mc1 ms1 pc : Nat} {ls : PLo} {rest : List Value} {w : PW} {K : Option Value → PW → Prop} {KX : String → PW → Prop} {Kn : KN} {hand : List (String × Int)} (hH : HL M pc (tabOf M.1) hand) (hret : M.2.2.2 = some .int) (hK : ∀ mc ms pc ls st w, Kn mc ms pc ls st w → GG gp M d mc ms pc ls st w K KX)
    {l : Launch} {p : Program} {e : Env} {R : Room} {s : State} {m : MethodId} {args : Array Value} {below : List Frame} {meth : Method} {c : Code} {H : Heap} {locs : List Loc} {cells slots : Nat} {X : XX} {ad : Nat → Nat} {A : Nat → Prop} {n0 : Nat} {ad0 : Nat → Nat} {mc0 ms0 : Nat} {la : Array Slot}
    (E : EE gp M d mc ms ls w l p R s m args meth c H locs cells slots X ad A n0 ad0 mc0 ms0 la) {st0 : List Value} {a : Array Value} (hmc : mc1 ≤ mc) (hms : ms1 ≤ ms) {K1 : Option Value → PW → Prop}
    (hK1 : ∀ r w', K1 r w' → (mc1 = 0 ∨ (bLo w.length ls ∧ bSt w.length rest)) ∧ kR Kn (mc - mc1) (ms - ms1) (pc + 3) ls rest r w')
    (hr : vx_Run p l e R s m args below meth c H locs cells slots mc1 ms1 (F0 m pc la st0) (rest.map (cV ad)) (QQ X w.length mc1 ad (va_A (cW X.2 ad w) H.size) K1 a) (QX X w.length mc1 ad (va_A (cW X.2 ad w) H.size) (hKX K hand)) (va_A (cW X.2 ad w) H.size)) :
    W p l e R s m args below meth c H locs cells slots (vx_MQ below (QQ X n0 mc0 ad0 A K) (QX X n0 mc0 ad0 A KX) args s mc0 ms0 A) (F0 m pc la st0) := by
  have hfree := EE_free E
  obtain ⟨E1, ⟨q1, q2, q3, q4, q5, q6, q7, q8⟩, hl, ⟨hKK, hP, hD, hS, hA, hR, hG⟩, hnt0⟩ := id E
  intro T hT Xs
  rcases hr T hT Xs with ⟨v, st₀, t, T', L, h0, X', hL, e1, e2, ⟨⟨r, w', ad', hv, hk, hag, hlen, hP', hD'⟩, hF⟩, st⟩ | ⟨q, st₀, t, T', L, E9, ce, h0, X', hL, e1, e2, ⟨⟨w', ad', hk, hag, hlen, hP', hD'⟩, hF⟩, hce, hcv, hcl, st⟩
  · obtain ⟨k1, k2, k3⟩ := vx_keep h0 e1 hS (fun q _ h => hfree q h) hfree hL hF
    cases hv
    obtain ⟨hbd, hk⟩ := hK1 r w' hk
    have hGn : AG n0 w'.length ad0 ad' := hG.comp hag
    have had : ∀ k, (k < w.length ∨ 1000 ≤ k) → ad' k = ad k := fun k hk9 => hag.2.2 k (by have := hag.2.1; omega)
    have hl' : lv_has la M.2.2.1 (prs ad' ls) := by
      rcases hbd with z | ⟨z, -⟩
      · have e9 : w'.length = w.length := by have := hag.1; omega
        rw [e9] at hag
        rw [hag.eq]
        exact hl
      · exact bLo_prs had z hl
    have hrest : rest.map (cV ad') = rest.map (cV ad) := by
      rcases hbd with z | ⟨-, z⟩
      · have e9 : w'.length = w.length := by have := hag.1; omega
        rw [e9] at hag
        rw [hag.eq]
      · exact bSt_map had rest z
    have hR' : RO ad' A s s.heap := hR.ad (fun k hk9 => had k (Or.inr hk9))
    have E' : EE gp M d (mc - mc1) (ms - ms1) ls w' l p R s m args meth c T'.heap (locs ++ L) (cells + mc1) (slots + ms1) X ad' A n0 ad0 mc0 ms0 la :=
      ⟨E1, ⟨q1, q2, by omega, by omega, q5, q6, by omega, q8⟩, hl', ⟨hKK, by rw [e1]; exact hP', hD'.weaken (fun _ q9 _ z => hfree _ z), k3, hA, hR', hGn⟩, hnt0⟩
    cases r with
    | none =>
      obtain ⟨t2, a1, b1⟩ := hK _ _ _ _ _ _ hk E' T' rfl X'
      refine ⟨t2, st t2 ?_, b1⟩
      show Steps p.tables e below (T'.setTop (F0 m (pc + 3) la (rest.map (cV ad)))) t2
      rw [← hrest]
      exact a1
    | some v9 =>
      obtain ⟨t2, a1, b1⟩ := hK _ _ _ _ _ _ hk E' T' rfl X'
      refine ⟨t2, st t2 ?_, b1⟩
      show Steps p.tables e below (T'.setTop (F0 m (pc + 3) la (cV ad' v9 :: rest.map (cV ad)))) t2
      rw [← hrest]
      exact a1
  · obtain ⟨k1, k2, k3⟩ := vx_keep h0 e1 hS (fun q _ h => hfree q h) hfree hL hF
    have hGn : AG n0 w'.length ad0 ad' := hG.comp hag
    have hx : vx_W p l e R s m args below meth c T'.heap (locs ++ L) (cells + mc1) (slots + ms1) (vx_MQ below (QQ X n0 mc0 ad0 A K) (QX X n0 mc0 ad0 A KX) args s mc0 ms0 A) (F0 m pc la (rest.map (cV ad))) q :=
      catch_go E1.2.1 E1.2.2.1 E1.2.2.2.2.1 E1.2.2.2.2.2.1 E1.2.2.2.2.2.2.1 E1.2.2.2.2.2.2.2.1 hret hR hl (by rw [e1]; exact hce) hcv hcl (by omega) (by rw [e1]; exact hP') (hD'.weaken (fun _ q9 _ z => hfree _ z)) k3 hGn (by omega) (by omega) (tabOf M.1) hand [] hH hnt0.1 (fun z hz => nomatch hz) hk
    obtain ⟨t2, a1, b1⟩ := hx T' rfl X'
    exact ⟨t2, st.trans a1, b1⟩
/-- the class's method, called by the law: what it throws is caught -/
def cC (M' : MM) (mc1 ms1 : Nat) (hand : List (String × Int)) (Kn : KN) (K : Option Value → PW → Prop) (d mc ms nx : Nat) (ls : PLo) (w : PW) (av rest : List Value) : Prop := if catS rest ≤ 8 then (match d with
    | d' + 1 => (mc1 ≤ mc ∧ ms1 ≤ ms) ∧ WQ M' d' mc1 ms1 av w (kRc w.length Kn (mc - mc1) (ms - ms1) nx ls rest) (hKX K hand)
    | 0 => False) else False
def o_callC (M' : MM) (ci n mc1 ms1 : Nat) (hand : List (String × Int)) (nx : Nat) : OP := fun Kn K _ d mc ms ls st w => popA n st [] (cR ci w (cC M' mc1 ms1 hand Kn K d mc ms nx ls w)) False
theorem s_callC {M M' : MM} {pc idx n ci N mc1 ms1 : Nat} {C : String} {T : u_T} {hand : List (String × Int)} (hH : HL M pc (tabOf M.1) hand) (hret : M.2.2.2 = some .int) (hd : decode M.2.1 pc = .ok (.invokevirtual idx, 3)) (ho : mOk M' n) (hl : Cond.methodLink M.1.cls idx M'.1 ∈ WD) (hi : Cond.instanceMethod M'.1 ∈ WD) (hs : Cond.selects C M'.1 M'.1 ∈ WD) (hC : M'.1.cls = C) (hc : classes[ci]? = some (C, T, N)) : SO M pc (o_callC M' ci (n + 1) mc1 ms1 hand (pc + 3)) := by
  intro d mc ms ls st w K KX Kn gp hK h
  unfold o_callC at h
  rcases popA_eq (n + 1) st [] (cR ci w (cC M' mc1 ms1 hand Kn K d mc ms (pc + 3) ls w)) False with ⟨av, rest, e1, e2, e3⟩ | e3
  · rw [e3, List.append_nil] at h
    rw [e1]
    unfold cR at h
    split at h
    · next a as =>
      split at h
      · next c9 fs hg =>
        split at h
        · next hci =>
          subst hci
          unfold cC at h
          split at h
          · next hc8 =>
            intro l p e R s m args below meth c H locs cells slots X ad A n0 ad0 mc0 ms0 la E
            obtain ⟨⟨htr, hx, hb, hml, hr0, hown, hts, hlk, hnm⟩, ⟨q1, q2, q3, q4, q5, q6, q7, q8⟩, hlv, ⟨hKK, hP, hD, hS, hA, hR, hG⟩, hnt⟩ := id E
            cases d with
            | zero => exact h.elim
            | succ d' =>
              obtain ⟨⟨g1, g2⟩, h⟩ := h
              have hM := (WQ_iff.mp h) (l := l) (X := X) (ad := ad) (sz := H.size) htr (by omega) (by omega)
              rw [cdOf_n ho.2.2.2.2.2.2] at hM
              have cw := cwV (R := R) (rm := { frames := d', cells := mc1, slots := ms1, locals := 40 * d' }) n hts (good_app (a := [.methodLink M.1.cls idx M'.1, .instanceMethod M'.1, .selects C M'.1 M'.1, .initialized C]) (fun w hw => by
                simp only [List.mem_cons, List.not_mem_nil, or_false] at hw
                rcases hw with rfl | rfl | rfl | rfl
                · exact hl
                · exact hi
                · exact hs
                · rw [← hC]; exact ho.2.1) (good_code ho)) rfl rfl rfl ⟨hC, ho.2.2.1, ho.2.2.2.1, ho.2.2.2.2.1⟩ (room_le ho.2.2.2.2.2.1 rfl q1 q2)
              refine call_useC (mc1 := mc1) (ms1 := ms1) (rest := rest) hH hret hK E g1 g2 (fun r w' hk => ⟨Or.inr (kRc_un hk).1, (kRc_un hk).2⟩) (vx_runV (As := as.map (cV ad)) (b := ad a) (C := C) ⟨hx, hb, hml, hown, hts⟩ hM cw ⟨CPc_blind, va_recv hKK hP hc (cW_at (by rw [← gW_eq]; exact hg)), EE_pre E (.ref a :: as)⟩ rfl ?_ hlv.1 (st_rev ad _ as rest) (st_sum ad hc8) hd ⟨by omega, by omega⟩)
              rw [List.length_map]
              simpa using e2
          · exact h.elim
        · exact h.elim
      · exact h.elim
    · exact h.elim
  · rw [e3] at h
    exact h.elim
/-- a method with handlers: entry, and a call of it -/
theorem vx_ofWH {l : Launch} {y : MethodName} {ws ws' : List Cond} {rm : Room} {Pc : Array Value → State → Prop} {Qc : Array Value → State → Outcome → State → Prop} {XC : String → State → State → Prop} {mc ms : Nat} {free : Addr → Prop} {cc : ByteArray} {maxL : Nat} {ret : Option FieldType} {hh : List (Nat × Nat × Nat × Nat)}
    (hy : plainName y.cls = true) (hw : ws = Cond.codeWith y cc maxL ret hh :: ws')
    (body : ∀ p e s m args below meth c s₁, BodyLoose p l y (headSpec ws rm) cc maxL ret e s m args below meth c s₁ → c.maxLocals = maxL → Pc args s →
      W p l e (headSpec ws rm).room s m args below meth c s.heap [] 0 0 (vx_MQ below Qc XC args s mc ms free) (entryFrame m args maxL)) : vx_Met l y ws rm Pc Qc XC mc ms free := by
  refine MetFree.of_bodyS (code := cc) (maxLocals := maxL) (ret := ret) hy ?_ ?_
  · intro args s m h hn
    obtain ⟨m9, meth, c, hn9, h1, h2, h3, h4, -, h5, h6, -⟩ := Cond.codeWith_spec (atoms_spec (ws := ws) h _ (by rw [hw]; exact List.mem_cons_self))
    cases hn.symm.trans hn9
    exact ⟨meth, c, h1, h2, h3, h4, h5, h6⟩
  · intro p e s m args below meth c s₁ B hml hP _
    have hh0 : s₁.heap = s.heap := by rw [B.state]; rfl
    obtain ⟨t, a1, o, b1, b2, b3⟩ := body p e s m args below meth c s₁ B hml hP s₁ hh0 (Stand.of_body B)
    exact ⟨t, o, a1, b1, b2, b3⟩
theorem methW {M : MM} {d mc ms : Nat} {av : List Value} {w : PW} {K : Option Value → PW → Prop} {KX : String → PW → Prop} {h9 : Nat × Nat × Nat × Nat} {hs9 : List (Nat × Nat × Nat × Nat)} (hz : tabOf M.1 = h9 :: hs9) (hy : plainName M.1.cls = true) (hlen : Nat.ble (lg_sl (av.map (cV (fun k => k)))).length M.2.2.1 = true) (h : GO M d mc ms 0 (inL av) [] w K KX) : WQ M d mc ms av w K KX := by
  refine WQ_iff.mpr ?_
  intro l X ad sz htr hw9 hw8
  have hcd : cdOf M = .codeWith M.1 M.2.1 M.2.2.1 M.2.2.2 (h9 :: hs9) := by
    unfold cdOf
    rw [hz]
  rw [hcd]
  refine vx_ofWH (cc := M.2.1) (maxL := M.2.2.1) (ret := M.2.2.2) hy rfl ?_
  intro p e s m args below meth c s₁ B hml hv
  obtain ⟨rfl, hsz, hP, hK, hD, hR⟩ := hv
  have hts := atoms_spec (ws := .codeWith M.1 M.2.1 M.2.2.1 M.2.2.2 (h9 :: hs9) :: WD) B.pre
  subst hsz
  have hlen' : (lg_sl (av.map (cV ad))).length ≤ M.2.2.1 := by
    have e : ∀ l : List Value, (lg_sl (l.map (cV ad))).length = (lg_sl (l.map (cV (fun k => k)))).length := by
      intro l
      induction l with
      | nil => rfl
      | cons a t ih =>
        simp only [lg_sl, List.map_cons, List.flatMap_cons, List.length_append] at ih ⊢
        rw [ih]
        congr 1
        cases a <;> rfl
    rw [e]; exact Nat.le_of_ble_eq_true hlen
  have hl := lv_entry (av.map (cV ad)) (n := M.2.2.1) hlen'
  rw [lg_entry_eq]
  generalize (lg_sl (av.map (cV ad)) ++ List.replicate (M.2.2.1 - (lg_sl (av.map (cV ad))).length) Slot.unset).toArray = la at hl ⊢
  have E : EE gT M d mc ms (inL av) w l p ({ frames := d, cells := mc, slots := ms, locals := 40 * d } : Room) s m (av.map (cV ad)).toArray meth c s.heap [] 0 0 X ad (va_A (cW X.2 ad w) s.heap.size) w.length ad mc ms la :=
    ⟨⟨htr, B.exec, B.bytes, hml, B.returns, findClass_of_methodNamed B.named, fun w hw => hts w (List.mem_cons_of_mem _ hw), B.notSynchronized, (name_of_methodNamed B.named B.method).1⟩,
      ⟨Nat.le_refl _, Nat.le_refl _, by omega, by omega, Nat.le_refl _, Nat.le_refl _, Nat.le_refl _, hw8⟩, hl_in hl, ⟨hK, hP, hD.self, va_S.rf, fun q hq => Or.inr hq, hR, AG.rf hw9⟩, by rw [hz]; exact ⟨vx_table (x := M.1) B (hts _ List.mem_cons_self), trivial⟩⟩
  exact GO_iff.mp h E
def mOkW (M : MM) (n : Nat) : Prop := cdOf M ∈ WD ∧ Cond.initialized M.1.cls ∈ WD ∧ M.1.cls ≠ "java/lang/invoke/MethodHandle" ∧ M.1.cls ≠ "java/lang/invoke/VarHandle" ∧ (parseMethodDescriptor M.1.desc).map (fun d => d.parameters.length) = some n ∧ M.2.2.1 ≤ 21
def o_callW (M' : MM) (n mc1 ms1 nx : Nat) : OP := fun Kn _ _ d mc ms ls st w => popA n st [] (cI M' mc1 ms1 Kn d mc ms nx ls w) False
theorem s_callW {M M' : MM} {pc idx n mc1 ms1 : Nat} {h9 : Nat × Nat × Nat × Nat} {hs9 : List (Nat × Nat × Nat × Nat)} (hz : tabOf M.1 = []) (hd : decode M.2.1 pc = .ok (.invokestatic idx, 3)) (hz9 : tabOf M'.1 = h9 :: hs9) (ho : mOkW M' n) (hl : Cond.methodLink M.1.cls idx M'.1 ∈ WD) (hs : Cond.static M'.1 ∈ WD) : SO M pc (o_callW M' n mc1 ms1 (pc + 3)) := by
  intro d mc ms ls st w K KX Kn gp hK h
  unfold o_callW at h
  rcases popA_eq n st [] (cI M' mc1 ms1 Kn d mc ms (pc + 3) ls w) False with ⟨av, rest, e1, e2, e3⟩ | e3
  · rw [e3, List.append_nil] at h
    rw [e1]
    obtain ⟨hc8, d', rfl, g1, g2, h⟩ := cI_un h
    intro l p e R s m args below meth c H locs cells slots X ad A n0 ad0 mc0 ms0 la E
    obtain ⟨⟨htr, hx, hb, hml, hr0, hown, hts, hlk, hnm⟩, ⟨q1, q2, q3, q4, q5, q6, q7, q8⟩, hlv, ⟨hKK, hP, hD, hS, hA, hR, hG⟩, hnt⟩ := id E
    have hM := h (l := l) (X := X) (ad := ad) (sz := H.size) htr (by omega) (by omega)
    have hcd : cdOf M' = .codeWith M'.1 M'.2.1 M'.2.2.1 M'.2.2.2 (h9 :: hs9) := by
      unfold cdOf
      rw [hz9]
    have hM := met_of_vx (fun E9 s9 t9 hx9 => by obtain ⟨⟨w9, ad9, hf, -⟩, -⟩ := hx9; exact hf) hM
    have hgw : GoodIn WD (cdOf M' :: WD) := wd_good fun w hw => by
      rcases List.mem_cons.mp hw with rfl | hw
      · exact ho.1
      · exact hw
    rw [hcd] at hM hgw
    have cw := vx_cwSW (R := R) (own := M.1.cls) (index := idx) (y := M'.1) (rm := { frames := d', cells := mc1, slots := ms1, locals := 40 * d' }) n hts (good_app (a := [.methodLink M.1.cls idx M'.1, .static M'.1, .initialized M'.1.cls]) (fun w hw => by
      simp only [List.mem_cons, List.not_mem_nil, or_false] at hw
      rcases hw with rfl | rfl | rfl
      · exact hl
      · exact hs
      · exact ho.2.1) hgw) rfl rfl rfl ⟨ho.2.2.1, ho.2.2.2.1, ho.2.2.2.2.1⟩ (room_le ho.2.2.2.2.2 rfl q1 q2)
    refine call_use (mc1 := mc1) (ms1 := ms1) (rest := rest) hz hK E g1 g2 (fun r w' hk => ⟨Or.inr (kRc_un hk).1, (kRc_un hk).2⟩) (vx_of_va (vx_runSW (As := av.map (cV ad)) ⟨hx, hb, hml, hown, hts⟩ hM cw ⟨CPc_blind, EE_pre E av⟩ rfl (by rw [List.length_map]; exact e2) hlv.1 ?_ (st_sum ad hc8) hd ⟨by omega, by omega⟩))
    show (av.reverse ++ rest).map (cV ad) = (av.map (cV ad)).reverse ++ rest.map (cV ad)
    rw [List.map_append, List.map_reverse]
  · rw [e3] at h
    exact h.elim
/-! FLOATING NUMBERS -/
def o_ddiv (nx : Nat) : OP := fun Kn _ _ _ mc ms ls st w => match st with
  | .double y :: .double x :: r => vf_n64 (FP.ddiv x y) ∧ Kn mc ms nx ls (.double (FP.ddiv x y) :: r) w
  | _ => False
theorem s_ddiv {M : MM} {pc : Nat} (hd : decode M.2.1 pc = .ok (.ddiv, 1)) : SO M pc (o_ddiv (pc + 1)) := by
  intro d mc ms ls st w K KX Kn gp hK h l p e R s m args below meth c H locs cells slots X ad A n0 ad0 mc0 ms0 la E
  obtain ⟨⟨htr, hx, hb, hml, hr0, hown, hts, hlk, hnm⟩, -⟩ := id E
  simp only [o_ddiv] at h
  split at h
  · exact lv_ddiv hx hb hd h.1 (hK _ _ _ _ _ _ h.2 E)
  · exact h.elim
def o_fdiv (nx : Nat) : OP := fun Kn _ _ _ mc ms ls st w => match st with
  | .float y :: .float x :: r => vf_n32 (FP.fdiv x y) ∧ Kn mc ms nx ls (.float (FP.fdiv x y) :: r) w
  | _ => False
theorem s_fdiv {M : MM} {pc : Nat} (hd : decode M.2.1 pc = .ok (.fdiv, 1)) : SO M pc (o_fdiv (pc + 1)) := by
  intro d mc ms ls st w K KX Kn gp hK h l p e R s m args below meth c H locs cells slots X ad A n0 ad0 mc0 ms0 la E
  obtain ⟨⟨htr, hx, hb, hml, hr0, hown, hts, hlk, hnm⟩, -⟩ := id E
  simp only [o_fdiv] at h
  split at h
  · exact lv_fdiv hx hb hd h.1 (hK _ _ _ _ _ _ h.2 E)
  · exact h.elim
def o_f2d (nx : Nat) : OP := fun Kn _ _ _ mc ms ls st w => match st with
  | .float x :: r => vf_n64 (FP.f2d x) ∧ Kn mc ms nx ls (.double (FP.f2d x) :: r) w
  | _ => False
theorem s_f2d {M : MM} {pc : Nat} (hd : decode M.2.1 pc = .ok (.f2d, 1)) : SO M pc (o_f2d (pc + 1)) := by
  intro d mc ms ls st w K KX Kn gp hK h l p e R s m args below meth c H locs cells slots X ad A n0 ad0 mc0 ms0 la E
  obtain ⟨⟨htr, hx, hb, hml, hr0, hown, hts, hlk, hnm⟩, -⟩ := id E
  simp only [o_f2d] at h
  split at h
  · exact lv_f2d hx hb hd h.1 (hK _ _ _ _ _ _ h.2 E)
  · exact h.elim
def o_dcmp (op : CmpOp) (nx : Nat) : OP := fun Kn _ _ _ mc ms ls st w => match st with
  | .double y :: .double x :: r => Kn mc ms nx ls (.int (Op.cmpValue (FP.dcmp x y) op) :: r) w
  | _ => False
theorem s_dcmp {M : MM} {pc : Nat} {op : CmpOp} (hd : decode M.2.1 pc = .ok (.dcmp op, 1)) : SO M pc (o_dcmp op (pc + 1)) := by
  intro d mc ms ls st w K KX Kn gp hK h l p e R s m args below meth c H locs cells slots X ad A n0 ad0 mc0 ms0 la E
  obtain ⟨⟨htr, hx, hb, hml, hr0, hown, hts, hlk, hnm⟩, -⟩ := id E
  simp only [o_dcmp] at h
  split at h
  · exact lv_dcmp hx hb hd (hK _ _ _ _ _ _ h E)
  · exact h.elim
def o_dret : OP := fun _ K _ _ _ _ _ st w => match st with
  | [.double x] => K (some (.double x)) w
  | _ => False
theorem s_dret {M : MM} {pc : Nat} (hd : decode M.2.1 pc = .ok (.dreturn, 1)) (hr : M.2.2.2 = some .double) : SO M pc o_dret := by
  intro d mc ms ls st w K KX Kn gp hK h l p e R s m args below meth c H locs cells slots X ad A n0 ad0 mc0 ms0 la E
  obtain ⟨⟨htr, hx, hb, hml, hr0, hown, hts, hlk, hnm⟩, ⟨q1, q2, q3, q4, q5, q6, q7, q8⟩, hl, ⟨hKK, hP, hD, hS, hA, hR, hG⟩, -⟩ := id E
  simp only [o_dret] at h
  split at h
  · next x =>
    refine vx_ret (W.widen (k := mc0) (n := ms0) (by omega) (by omega) ?_)
    exact W.dret hx hb (hr0.trans hr) (fun t ht _ => ret_QQ (r := some (.double x)) h (by omega) hP hD hS hG ht) hS.2.2 hd hlk
  · exact h.elim
def o_fret : OP := fun _ K _ _ _ _ _ st w => match st with
  | [.float x] => K (some (.float x)) w
  | _ => False
theorem s_fret {M : MM} {pc : Nat} (hd : decode M.2.1 pc = .ok (.freturn, 1)) (hr : M.2.2.2 = some .float) : SO M pc o_fret := by
  intro d mc ms ls st w K KX Kn gp hK h l p e R s m args below meth c H locs cells slots X ad A n0 ad0 mc0 ms0 la E
  obtain ⟨⟨htr, hx, hb, hml, hr0, hown, hts, hlk, hnm⟩, ⟨q1, q2, q3, q4, q5, q6, q7, q8⟩, hl, ⟨hKK, hP, hD, hS, hA, hR, hG⟩, -⟩ := id E
  simp only [o_fret] at h
  split at h
  · next x =>
    refine vx_ret (W.widen (k := mc0) (n := ms0) (by omega) (by omega) ?_)
    exact W.fret hx hb (hr0.trans hr) (fun t ht _ => ret_QQ (r := some (.float x)) h (by omega) hP hD hS hG ht) hS.2.2 hd hlk
  · exact h.elim
