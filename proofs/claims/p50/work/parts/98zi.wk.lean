/-! THE CLAIM OUT OF ONE WALK OF THE LAW'S BODY. Your part is whole_start (and what it stands on); all else here is the same for every law, but numbers. -/
def R_law : String := "RestMillLaw"
def lw_P (b : Addr) (xs : List Int32) (args : Array Value) (s : State) : Prop := args = #[.ref b] ∧ s.IntsAt b xs ∧ xs.length ≤ 260 ∧ (Jvm.Cond.and given_1 narrow_1).before args s = true
def lw_Q (_ : Array Value) (s : State) (o : Outcome) (t : State) : Prop := o = .returned (some (.int 1)) ∧ Framed s o t [] 600086 7301442
def lw_Z (below : List Frame) (a : Array Value) (s : State) : State → Prop := fun t => ∃ o, t.status = .running ∧ Ended t below o ∧ lw_Q a s o t
/-- the law's own end, with 1 on the stack, nothing written that was there before, its room as the claim has it -/
theorem lw_ret {p : Program} {l : Launch} {e : Env} {s : State} {m : MethodId} {below : List Frame} {meth : Method} {c : Code} {b : Nat} (hx : p.tables.exec = Jvm.exec) (hb : c.code = code) (hr : meth.sig.returnType = ret) (hlocks : meth.locks = false) {pc : Nat} {H : Heap} {ls : Array Slot} (hdg : decode code pc = .ok (.ireturn, 1)) : W p l e room_1 s m #[Value.ref b] below meth c H [] 600086 7301442 (lw_Z below #[Value.ref b] s) (F0 m pc ls [.int 1]) := by
  intro T hT X
  obtain ⟨fs, hret, hrun, hended, hW, hframe⟩ := X.leave (v := some (.int 1)) (hlocks := hlocks) (fun h => by rw [hr] at h; cases h)
  have hmeth' : T.vm.method? m = some meth := X.method'
  refine ⟨T.setFrames fs, ?_, .returned (some (.int 1)), hrun, hended, rfl, ⟨_, rfl⟩, hW, hframe⟩
  jvm_step X.here [X.here.top, hx, hb, hdg, hmeth', hr, ret, narrow_b1]
  (try refine ⟨rfl, ?_⟩); (try refine ⟨rfl, ?_⟩)
  first | (intro acts; rw [hret _ acts rfl rfl rfl]) | rw [hret _ _ rfl rfl rfl]
  exact Steps.refl _
/-- what holds at the law's entry: the machine, the code, the tables' words (any of lw_tbl by 'hts w (by decide +kernel)'), the script of L ints xs at the cell b, what the Statement gives of the start (any of its parts by flat_of_before) -/
def lw_At (p : Program) (s : State) (m : MethodId) (meth : Method) (c : Code) (b L : Nat) (xs : Nat → Int32) : Prop :=
  p.tables.exec = Jvm.exec ∧ c.code = code ∧ meth.sig.returnType = ret ∧ c.maxLocals = 16 ∧ s.vm.findClass R_law = some m.cls ∧ (∀ w ∈ lw_tbl, w.before #[Value.ref b] s = true) ∧ va_X b L xs s s.heap ∧ b < s.heap.size ∧ meth.locks = false ∧ (Jvm.Cond.and given_1 narrow_1).before #[Value.ref b] s = true ∧ meth.name = "law" ∧ ∀ z ∈ c.exceptionTable.toList, False
/-! THE TABLES' WORDS AT THE START, the classes and their arrays -/
theorem up_sel {args : Array Value} {s : State} {cls : String} {y0 y : MethodName} (h0 : y0.cls = y.cls) (hy : y.cls ≠ "java/lang/invoke/MethodHandle" ∧ y.cls ≠ "java/lang/invoke/VarHandle") (hsel0 : (Cond.selects cls y0 y0).before args s = true) (hpriv : (Cond.privateMethod y).before args s = true) (hinst : (Cond.instanceMethod y).before args s = true) : (Cond.selects cls y y).before args s = true := by
  obtain ⟨c, r, m0, hc, hr0, hm0, hs0, k0, hk0, hi0⟩ := Cond.selects_spec hsel0
  obtain ⟨mk, methM, hnamed, hmethM, -, -⟩ := Cond.instanceMethod_spec hinst
  have hfound : s.methodFound? y.cls y.name y.desc = some mk := State.methodFound?_of_named hnamed hy
  have e : mk.cls = m0.cls := Option.some.inj ((findClass_of_methodNamed hnamed).symm.trans (by rw [← h0]; exact findClass_of_methodNamed hm0))
  have hsel : selectMethod {} s.vm c mk = .method mk := selectMethod_private hmethM (Cond.privateMethod_at hpriv mk methM hnamed hmethM)
  simp only [Cond.before, Cond.holds, Cond.value, hc, hfound, hnamed, hsel, e, hk0]
  simp
  exact hi0
theorem up_all {args : Array Value} {s : State} (hts : ∀ w ∈ lw_tbl, w.before args s = true) : ∀ y ∈ upY, (Cond.selects "java/lang/StringBuilder" y y).before args s = true := by
  have h0 : (Cond.selects "java/lang/StringBuilder" ⟨"java/lang/AbstractStringBuilder", "isLatin1", "()Z"⟩ ⟨"java/lang/AbstractStringBuilder", "isLatin1", "()Z"⟩).before args s = true := hts _ (by decide +kernel)
  have hw : ∀ y ∈ upY, y.cls = "java/lang/AbstractStringBuilder" ∧ Cond.privateMethod y ∈ lw_tbl ∧ Cond.instanceMethod y ∈ lw_tbl := by decide +kernel
  intro y hy
  obtain ⟨e, h1, h2⟩ := hw y hy
  exact up_sel (y0 := ⟨"java/lang/AbstractStringBuilder", "isLatin1", "()Z"⟩) e.symm (by rw [e]; decide) h0 (hts _ h1) (hts _ h2)
theorem wd_all {args : Array Value} {s : State} (hts : ∀ w ∈ lw_tbl, w.before args s = true) : ∀ w ∈ WD, w.before args s = true := by
  intro w hw
  rcases List.mem_append.mp (List.mem_filter.mp hw).1 with h | h
  · obtain ⟨y, hy, rfl⟩ := List.mem_map.mp h
    exact up_all hts y hy
  · exact hts w h
theorem k_arr {args : Array Value} {s : State} {ty : FieldType} (hty : ∀ C, ty ≠ .object C) (h : (Cond.arrayClass ty).before args s = true) : ∃ c : ClassId, ArrOfT s c ty ∧ va_RA s c ty := by
  obtain ⟨c, kA, comp, h1, h2, h3⟩ := Cond.arrayClass_spec h
  refine ⟨c, fun n z => ⟨fun k h => (by cases h), kA, h2, comp, h3⟩, ?_⟩
  cases ty with
  | object C => exact absurd rfl (hty C)
  | _ => exact h1
theorem k_arq {args : Array Value} {s : State} {C : String} (h : (Cond.arrayOver (.object C)).before args s = true) : ∃ c : ClassId, ArrOfT s c (.object C) ∧ va_RA s c (.object C) := by
  obtain ⟨comp, c, kA, h1, -, h2, h3, h4⟩ := Cond.arrayOver_spec h
  exact ⟨c, fun n z => ⟨fun k h => (by cases h), kA, h2, comp, h3⟩, kA, comp, h2, h3, h1, h4⟩
theorem k_at {args : Array Value} {s : State} (hts : ∀ w ∈ lw_tbl, w.before args s = true) : ∃ X : XX, va_K X.1 classes (tyl X.2) s := by
  have hW := wd_all hts
  have hc : ∀ c : Nat, ∃ p : ClassId × (Nat → Nat), ∀ q : vw_C, classes[c]? = some q → u_Kn s q.1 q.2.1 q.2.2 p.1 p.2 := by
    intro c
    match c with
    | 0 => obtain ⟨a, i, h⟩ := u_known hW in_X7 (hts (.instantiable RX7 12) (by decide +kernel)); exact ⟨(a, i), fun q hq => by cases hq; exact h⟩
    | 1 => obtain ⟨a, i, h⟩ := u_known hW in_X1 (hts (.instantiable RX1 4) (by decide +kernel)); exact ⟨(a, i), fun q hq => by cases hq; exact h⟩
    | 2 => obtain ⟨a, i, h⟩ := u_known hW in_X2 (hts (.instantiable RX2 6) (by decide +kernel)); exact ⟨(a, i), fun q hq => by cases hq; exact h⟩
    | 3 => obtain ⟨a, i, h⟩ := u_known hW in_X0 (hts (.instantiable RX0 3) (by decide +kernel)); exact ⟨(a, i), fun q hq => by cases hq; exact h⟩
    | 4 => obtain ⟨a, i, h⟩ := u_known hW in_X6 (hts (.instantiable RX6 7) (by decide +kernel)); exact ⟨(a, i), fun q hq => by cases hq; exact h⟩
    | 5 => obtain ⟨a, i, h⟩ := u_known hW in_X5 (hts (.instantiable RX5 1) (by decide +kernel)); exact ⟨(a, i), fun q hq => by cases hq; exact h⟩
    | 6 => obtain ⟨a, i, h⟩ := u_known hW in_X4 (hts (.instantiable RX4 4) (by decide +kernel)); exact ⟨(a, i), fun q hq => by cases hq; exact h⟩
    | 7 => obtain ⟨a, i, h⟩ := u_known hW in_X3 (hts (.instantiable RX3 6) (by decide +kernel)); exact ⟨(a, i), fun q hq => by cases hq; exact h⟩
    | 8 => obtain ⟨a, i, h⟩ := u_known hW in_J0 (hts (.instantiable RJ0 4) (by decide +kernel)); exact ⟨(a, i), fun q hq => by cases hq; exact h⟩
    | 9 => obtain ⟨a, i, h⟩ := u_known hW in_J4 (hts (.instantiable RJ4 4) (by decide +kernel)); exact ⟨(a, i), fun q hq => by cases hq; exact h⟩
    | n + 10 => exact ⟨(0, fun _ => 0), fun q hq => by cases hq⟩
  obtain ⟨f, hf⟩ := Classical.axiomOfChoice hc
  obtain ⟨b0, B0⟩ := k_arr (ty := .byte) (fun C h => by cases h) (hts (.arrayClass .byte) (by decide +kernel))
  obtain ⟨b1, B1⟩ := k_arr (ty := .int) (fun C h => by cases h) (hts (.arrayClass .int) (by decide +kernel))
  obtain ⟨b2, B2⟩ := k_arr (ty := .long) (fun C h => by cases h) (hts (.arrayClass .long) (by decide +kernel))
  obtain ⟨b3, B3⟩ := k_arq (C := "RestMill$Mill") (hts (.arrayOver (.object "RestMill$Mill")) (by decide +kernel))
  refine ⟨((fun c => (f c).1, fun c => (f c).2), fun k => match k with | 0 => b0 | 1 => b1 | 2 => b2 | _ => b3), fun c q hq => hf c q hq, fun k q hq => ?_⟩
  match k with
  | 0 => cases hq; exact B0
  | 1 => cases hq; exact B1
  | 2 => cases hq; exact B2
  | 3 => cases hq; exact B3
  | n + 4 => cases hq
/-! THE CLAIM'S WALK -/
/-- from the entry, for every script of at most 260 ints, the law comes to its end with true -/
theorem whole_start {p : Program} {e : Env} {s : State} {m : MethodId} {below : List Frame} {meth : Method} {c : Code} (l : Launch) (hflags : l.flags = flags0) {b L : Nat} {xs : Nat → Int32} (hL : L ≤ 260) (C0 : lw_At p s m meth c b L xs) : W p l e room_1 s m #[Value.ref b] below meth c s.heap [] 0 0 (lw_Z below #[Value.ref b] s) (entryFrame m ([Value.ref b] : List Value).toArray 16) := by
  obtain ⟨hx, hb, hr, hml, hown, hts, hX, hbl, hlocks, hgv, hname, hnt⟩ := C0
  have hA0 : ∀ a : Nat, a < s.heap.size → ¬ (fun q : Nat => s.heap.size ≤ q) a := fun a ha h => absurd ha (Nat.not_lt.mpr h)
  obtain ⟨ad, rfl, hR⟩ := ro_at (A := fun q => s.heap.size ≤ q) hgv hts hA0 b
  obtain ⟨X, hK⟩ := k_at hts
  have htr : l.stackTraces = false := by
    show (!l.flags.contains noTraceFlag) = false
    rw [hflags]
    decide
  have hl := lv_entry ([.ref (ad 3300)]) (n := 16) (Nat.le_of_ble_eq_true rfl)
  rw [lg_entry_eq]
  generalize (lg_sl ([.ref (ad 3300)]) ++ List.replicate (16 - (lg_sl ([.ref (ad 3300)])).length) Slot.unset).toArray = la at hl ⊢
  have hg := GOn_iff.mp (law_0 (mc := 898) (ms := 7294042) (K := fun r _ => r = some (.int (iI 1))) (KX := fun _ _ => False) (xs := xs) (show L ≤ 1000 by omega) (fun _ => rfl))
  have E : EE (gS L xs) M_Lw_law (4 + 11) (898 + 102) (7294042 + 7400) [some (.ref 3300)] [] l p room_1 s m #[Value.ref (ad 3300)] meth c s.heap [] 0 0 X ad (fun q => s.heap.size ≤ q) 0 ad (898 + 102) (7294042 + 7400) la :=
    ⟨⟨htr, hx, hb, hml, hr, hown, wd_all hts, hlocks, hname⟩, ⟨by decide, by decide, by decide, by decide, by decide, by decide, by decide, by decide⟩,
      hl_in (vs := [.ref 3300]) (ad := ad) hl, ⟨hK, fun k q h => (by cases h), ⟨fun i j p q h => (by cases h), fun k q h => (by cases h)⟩, va_S.rf, fun q h => h, hR, AG.rf (Nat.zero_le _)⟩,
      ⟨by rw [tz_Lw rfl]; exact nt_nil hnt, hX, hbl, hA0 _ hbl⟩⟩
  have hw := hg (e := e) (below := below) E
  intro T hT Xs
  obtain ⟨t, st, o, hrun, hend, hq⟩ := hw T hT Xs
  refine ⟨t, st, o, hrun, hend, ?_⟩
  rcases hq with ⟨⟨⟨r, w, ad', ho, hk, -⟩, -⟩, L9, hF, hL9⟩ | ⟨q, -, E9, ce, L9, ⟨⟨w, ad', hk, -⟩, -⟩, -⟩
  · have hr1 : r = some (.int (iI 1)) := hk
    refine ⟨by rw [ho, hr1]; rfl, ?_⟩
    obtain ⟨hv, hW, hs⟩ := hF
    have hs1 := State.sameButNew.mono (State.sameButNew.drop_fresh (L := []) hs hL9) (show 898 + 102 ≤ 600086 by decide) (Nat.le_refl 7301442)
    exact ⟨hv, hW, hs1⟩
  · exact hk.elim
set_option maxHeartbeats 4000000 in
theorem lw_walk (l : Launch) (hflags : l.flags = flags0) (b : Addr) (xs : List Int32) : MetFree l x (headSpec (Jvm.Cond.code x code maxLocals ret :: tables_1) room_1) (lw_P b xs) (fun _ _ _ _ _ => True) lw_Q := by
  refine MetFree.of_bodyS (code := code) (maxLocals := maxLocals) (ret := ret) (by decide) ?_ ?_
  · intro args s m h hn
    obtain ⟨meth, c, h1, h2, h3, h4, h5, h6, -, -⟩ := Cond.code_spec hn (atoms_spec (ws := Jvm.Cond.code x code maxLocals ret :: tables_1) h _ List.mem_cons_self)
    exact ⟨meth, c, h1, h2, h3, h4, h5, h6⟩
  · intro p e s m args below meth c s₁ B hml0 hP _
    obtain ⟨rfl, hx, hbd, hgv⟩ := hP
    obtain ⟨scr, harrAt, hlist, hof, hsmall⟩ := hx
    obtain ⟨hcb, hkn, -, -⟩ := State.arrayAt?_spec harrAt
    have hown : s.vm.findClass R_law = some m.cls := findClass_of_methodNamed B.named
    have hts0 : ∀ c ∈ (Jvm.Cond.code x code maxLocals ret :: tables_1), c.before #[Value.ref b] s = true := atoms_spec (ws := Jvm.Cond.code x code maxLocals ret :: tables_1) B.pre
    have hts : ∀ w ∈ lw_tbl, w.before #[Value.ref b] s = true := k2_hts_sels lw_privs (fun w hw => hts0 w (List.mem_cons_of_mem _ hw)) lw_privs_ok
    have hml : c.maxLocals = 16 := B.maxLocals_eq (hts0 _ List.mem_cons_self)
    have X₀ : Stand p l e room_1 s m #[Value.ref b] below meth c s₁ [] 0 0 := Stand.of_body B
    have hh0 : s₁.heap = s.heap := by rw [B.state]; rfl
    have hnt : ∀ z ∈ c.exceptionTable.toList, False := by
      obtain ⟨meth9, c9, h1, h2, -, -, -, -, h7, -⟩ := Cond.code_spec B.named (hts0 _ List.mem_cons_self)
      cases Option.some.inj (h1.symm.trans B.method)
      cases Option.some.inj (h2.symm.trans X₀.code)
      intro z hz
      rw [Array.isEmpty_iff.mp h7] at hz
      cases hz
    have hsz : scr.slots.size = xs.length := by rw [← Array.length_toList, hlist, List.length_map]
    have hval : ∀ j : Nat, j < xs.length → scr.slots[j]? = some (.int (xs.getD j 0)) := fun j hj => by
      rw [← Array.getElem?_toList, hlist]
      simp [hj]
    have hbl : b < s.heap.size := (Array.getElem?_eq_some_iff.mp hcb).1
    have hX : va_X b xs.length (fun j => xs.getD j 0) s s.heap := ⟨scr, hcb, hof, hkn, hsz, hval⟩
    have K : W p l e room_1 s m #[Value.ref b] below meth c s₁.heap [] 0 0 (lw_Z below #[Value.ref b] s) (entryFrame m ([Value.ref b] : List Value).toArray 16) := by
      rw [hh0]
      exact whole_start l hflags hbd ⟨B.exec, B.bytes, B.returns, hml, hown, hts, hX, hbl, B.notSynchronized, hgv, (name_of_methodNamed B.named B.method).1, hnt⟩
    obtain ⟨t, a1, o, b1, b2, b3⟩ := K s₁ rfl X₀
    exact ⟨t, o, a1, b1, b2, b3⟩
theorem lw_pre_spec {args : Array Value} {s : State} (h : (Jvm.Cond.and given_1 narrow_1).before args s = true) (hr : rest_1_c.before args s = true) : ∃ (b : Addr) (xs : List Int32), lw_P b xs args s := by
  have hs := flat_of_before _ h
  have hq := flat_of_before _ hr
  have hc : (Cond.count 1).before args s = true := hs _ (by decide +kernel)
  have harr : (Cond.arrayOf (.arg 0) .int).before args s = true := hs _ (by decide +kernel)
  have hle : (Cond.le (.length (.arg 0)) (.int 260)).before args s = true := hs _ (by decide +kernel)
  have hlen : (Cond.isInt (.length (.arg 0))).before args s = true := hq _ (by decide +kernel)
  have hall : (Cond.all (.arg 0) (.isInt (.elem (.arg 0) (.index 0)))).before args s = true := hq _ (by decide +kernel)
  obtain ⟨b, xs, hb, hx⟩ := State.ints_of_pre rfl harr hlen hall
  have hsm : xs.length < 2 ^ 31 := hx.choose_spec.2.2.2
  have hev : (Term.length (.arg 0)).eval args s none [] s = some (.int xs.length.toInt32) := hx.length_eval hb
  have hv := Cond.le_ints hev (show (Term.int 260).eval args s none [] s = some (.int 260) from rfl)
  have hd : xs.length.toInt32 ≤ 260 := by
    simpa [Cond.before, Cond.holds, hv] using hle
  have hN : xs.length ≤ 260 := (Int32.ofNat_le_ofNat hsm (by decide)).mp (show Int32.ofNat xs.length ≤ Int32.ofNat 260 from hd)
  exact ⟨b, xs, Cond.one_arg hc (show args[0]? = some (.ref b) from hb), hx, hN, h⟩
theorem lw_comes (l : Launch) (hflags : l.flags = flags0) : Comes l x (Jvm.Cond.code x code maxLocals ret :: tables_1) room_1 (fun tb e args s => Calls_1 tb e args s ∧ rest_1 tb e args s ∧ Pre_1 tb e args s)
    (fun _ _ args s o t => lw_Q args s o t) := by
  intro p e ha hc hk s m args below hf hfit hheap happ hpre
  obtain ⟨b, xs, hP⟩ := lw_pre_spec hpre.2.2 hpre.2.1
  obtain ⟨k, o, h1, h2, h3, hQ⟩ := lw_walk l hflags b xs p e ha hc hk s m args below hf ((Spec.applies_iff_loose hf).mp happ).1 hP trivial
  exact ⟨k, o, h1, h2, h3, hQ⟩
theorem lw_frame {s t : State} {o : Outcome} {args : Array Value} (h : Framed s o t [] 600086 7301442) :
    Framed s o t (fieldLocs frame_1_writes args s ++ arrayLocs frame_1_arrays args s ++ staticLocs frame_1_statics s) 600086 7301442 := h
theorem lw_limb (L : Cond) (hL : ∀ (args : Array Value) (s t : State), L.after args s (.returned (some (.int 1))) t = true) :
    ArmFor flags0 classFile x code maxLocals ret World_1 tables_1 room_1 Calls_1 rest_1 Pre_1
      (fun tb e a s o t => postC L tb e a s o t ∧ Framed s o t (fieldLocs frame_1_writes a s ++ arrayLocs frame_1_arrays a s ++ staticLocs frame_1_statics s) 600086 7301442) := by
  intro l hflags _ _ p e ha hc hk s m args below hf hfit hheap happ hpre
  obtain ⟨k, o, h1, h2, h3, rfl, hF⟩ := lw_comes l hflags p e ha hc hk s m args below hf hfit hheap happ hpre
  exact ⟨k, _, h1, h2, h3, hL args s _, lw_frame hF⟩
