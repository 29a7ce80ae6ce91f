/-! RETURNS -/
theorem ret_QQ {X : XX} {ad : Nat → Nat} {A : Nat → Prop} {n0 mc0 : Nat} {ad0 : Nat → Nat} {w : PW} {s t : State} {H : Heap} {locs : List Loc} {K : Option Value → PW → Prop} {a : Array Value} {r : Option Value} (hk : K r w) (hl : w.length ≤ n0 + mc0) (hP : va_P X.1 classes (cW X.2 ad w) H) (hD : va_D A (cW X.2 ad w)) (hS : va_S A s.heap H locs) (hG : AG n0 w.length ad0 ad) (ht : t.heap = H) : QQ X n0 mc0 ad0 A K a s (.returned (r.map (cV ad))) t :=
  ⟨⟨r, w, ad, rfl, hk, hG, hl, by rw [ht]; exact hP, hD⟩, hS.F ht⟩
def o_iret : OP := fun _ K _ _ _ _ _ st w => match st with
  | [.int x] => K (some (.int x)) w
  | _ => False
theorem s_iret {M : MM} {pc : Nat} (hd : decode M.2.1 pc = .ok (.ireturn, 1)) (hr : M.2.2.2 = some .int) : SO M pc o_iret := by
  intro d mc ms ls st w K KX Kn gp hK h l p e R s m args below meth c H locs cells slots X ad A n0 ad0 mc0 ms0 la E
  obtain ⟨⟨htr, hx, hb, hml, hr0, hown, hts, hlk, hnm⟩, ⟨q1, q2, q3, q4, q5, q6, q7, q8⟩, hl, ⟨hKK, hP, hD, hS, hA, hR, hG⟩, -⟩ := id E
  simp only [o_iret] at h
  split at h
  · next x =>
    refine vx_ret (W.widen (k := mc0) (n := ms0) (by omega) (by omega) ?_)
    exact W.iret hx hb (hr0.trans hr) (fun t ht _ => ret_QQ h (by omega) hP hD hS hG ht) hS.2.2 hd hlk
  · exact h.elim
def o_zret : OP := fun _ K _ _ _ _ _ st w => match st with
  | [.int x] => (x = 0 ∨ x = 1) ∧ K (some (.int x)) w
  | _ => False
theorem s_zret {M : MM} {pc : Nat} (hd : decode M.2.1 pc = .ok (.ireturn, 1)) (hr : M.2.2.2 = some .boolean) : SO M pc o_zret := by
  intro d mc ms ls st w K KX Kn gp hK h l p e R s m args below meth c H locs cells slots X ad A n0 ad0 mc0 ms0 la E
  obtain ⟨⟨htr, hx, hb, hml, hr0, hown, hts, hlk, hnm⟩, ⟨q1, q2, q3, q4, q5, q6, q7, q8⟩, hl, ⟨hKK, hP, hD, hS, hA, hR, hG⟩, -⟩ := id E
  simp only [o_zret] at h
  split at h
  · next x =>
    obtain ⟨h0, h⟩ := h
    refine vx_ret (W.widen (k := mc0) (n := ms0) (by omega) (by omega) ?_)
    exact W.zret (ty := .boolean) hx hb (hr0.trans hr) (by rcases h0 with rfl | rfl <;> rfl) (fun t ht _ => ret_QQ h (by omega) hP hD hS hG ht) hS.2.2 hd hlk
  · exact h.elim
/-- a byte or a char -/
def o_nret (ty : FieldType) : OP := fun _ K _ _ _ _ _ st w => match st with
  | [.int x] => narrow ty (.int x) = .int x ∧ K (some (.int x)) w
  | _ => False
theorem s_nret {M : MM} {pc : Nat} {ty : FieldType} (hd : decode M.2.1 pc = .ok (.ireturn, 1)) (hr : M.2.2.2 = some ty) : SO M pc (o_nret ty) := by
  intro d mc ms ls st w K KX Kn gp hK h l p e R s m args below meth c H locs cells slots X ad A n0 ad0 mc0 ms0 la E
  obtain ⟨⟨htr, hx, hb, hml, hr0, hown, hts, hlk, hnm⟩, ⟨q1, q2, q3, q4, q5, q6, q7, q8⟩, hl, ⟨hKK, hP, hD, hS, hA, hR, hG⟩, -⟩ := id E
  simp only [o_nret] at h
  split at h
  · next x =>
    obtain ⟨h0, h⟩ := h
    refine vx_ret (W.widen (k := mc0) (n := ms0) (by omega) (by omega) ?_)
    exact W.zret (ty := ty) hx hb (hr0.trans hr) h0 (fun t ht _ => ret_QQ h (by omega) hP hD hS hG ht) hS.2.2 hd hlk
  · exact h.elim
def o_lret : OP := fun _ K _ _ _ _ _ st w => match st with
  | [.long x] => K (some (.long x)) w
  | _ => False
theorem s_lret {M : MM} {pc : Nat} (hd : decode M.2.1 pc = .ok (.lreturn, 1)) (hr : M.2.2.2 = some .long) : SO M pc o_lret := by
  intro d mc ms ls st w K KX Kn gp hK h l p e R s m args below meth c H locs cells slots X ad A n0 ad0 mc0 ms0 la E
  obtain ⟨⟨htr, hx, hb, hml, hr0, hown, hts, hlk, hnm⟩, ⟨q1, q2, q3, q4, q5, q6, q7, q8⟩, hl, ⟨hKK, hP, hD, hS, hA, hR, hG⟩, -⟩ := id E
  simp only [o_lret] at h
  split at h
  · next x =>
    refine vx_ret (W.widen (k := mc0) (n := ms0) (by omega) (by omega) ?_)
    exact W.lret hx hb (hr0.trans hr) (fun t ht _ => ret_QQ h (by omega) hP hD hS hG ht) hS.2.2 hd hlk
  · exact h.elim
def o_vret : OP := fun _ K _ _ _ _ _ st w => match st with
  | [] => K none w
  | _ => False
theorem s_vret {M : MM} {pc : Nat} (hd : decode M.2.1 pc = .ok (.return_, 1)) (hr : M.2.2.2 = none) : SO M pc o_vret := by
  intro d mc ms ls st w K KX Kn gp hK h l p e R s m args below meth c H locs cells slots X ad A n0 ad0 mc0 ms0 la E
  obtain ⟨⟨htr, hx, hb, hml, hr0, hown, hts, hlk, hnm⟩, ⟨q1, q2, q3, q4, q5, q6, q7, q8⟩, hl, ⟨hKK, hP, hD, hS, hA, hR, hG⟩, -⟩ := id E
  simp only [o_vret] at h
  split at h
  · refine vx_ret (W.widen (k := mc0) (n := ms0) (by omega) (by omega) ?_)
    exact W.vret hx hb (hr0.trans hr) (fun t ht _ => ret_QQ (r := none) h (by omega) hP hD hS hG ht) hS.2.2 hd hlk
  · exact h.elim
def o_aret : OP := fun _ K _ _ _ _ _ st w => match st with
  | [.ref a] => K (some (.ref a)) w
  | [.null] => K (some .null) w
  | _ => False
theorem s_aret {M : MM} {pc : Nat} {rt : FieldType} (hd : decode M.2.1 pc = .ok (.areturn, 1)) (hr : M.2.2.2 = some rt) (hrt : (∃ n, rt = .object n) ∨ ∃ t, rt = .array t) : SO M pc o_aret := by
  intro d mc ms ls st w K KX Kn gp hK h l p e R s m args below meth c H locs cells slots X ad A n0 ad0 mc0 ms0 la E
  obtain ⟨⟨htr, hx, hb, hml, hr0, hown, hts, hlk, hnm⟩, ⟨q1, q2, q3, q4, q5, q6, q7, q8⟩, hl, ⟨hKK, hP, hD, hS, hA, hR, hG⟩, -⟩ := id E
  simp only [o_aret] at h
  split at h
  · next a =>
    refine vx_ret (W.widen (k := mc0) (n := ms0) (by omega) (by omega) ?_)
    exact W.aret hx hb (hr0.trans hr) hrt (Or.inr ⟨_, rfl⟩) (fun t ht _ => ret_QQ (r := some (.ref a)) h (by omega) hP hD hS hG ht) hS.2.2 hd hlk
  · refine vx_ret (W.widen (k := mc0) (n := ms0) (by omega) (by omega) ?_)
    exact W.aret hx hb (hr0.trans hr) hrt (Or.inl rfl) (fun t ht _ => ret_QQ (r := some .null) h (by omega) hP hD hS hG ht) hS.2.2 hd hlk
  · exact h.elim
/-! 'throw new E()' -/
def o_throw (E : String) : OP := fun _ _ KX d mc ms _ st w => (5 < d ∧ 1 ≤ mc ∧ 6 ≤ ms ∧ catS st ≤ 8) ∧ KX E w
def up2 : List String := ["java/lang/RuntimeException", "java/lang/Exception"]
theorem s_throw {M : MM} {pc ik ic : Nat} {E9 : String} (hz : tabOf M.1 = []) (d0 : decode M.2.1 pc = .ok (.new ik, 3)) (d3 : decode M.2.1 (pc + 3) = .ok (.dup, 1)) (d4 : decode M.2.1 (pc + 4) = .ok (.invokespecial ic, 3)) (d7 : decode M.2.1 (pc + 7) = .ok (.athrow, 1))
    (hf : Bundle.fit E9 = true) (hw : ∀ w ∈ Cond.classLink M.1.cls ik E9 :: Cond.initialized E9 :: vx_at0 M.1.cls ic E9 up2, w ∈ WD ∨ w ∈ xtra) : SO M pc (o_throw E9) := by
  intro d mc ms ls st w K KX Kn gp hK h l p e R s m args below meth c H locs cells slots X ad A n0 ad0 mc0 ms0 la E
  obtain ⟨⟨htr, hx, hb, hml, hr0, hown, hts, hlk, hnm⟩, ⟨q1, q2, q3, q4, q5, q6, q7, q8⟩, hl, ⟨hKK, hP, hD, hS, hA, hR, hG⟩, hnt⟩ := id E
  have hnt := nt_no hz hnt.1
  obtain ⟨⟨g1, g2, g3, g4⟩, h⟩ := h
  have hall : ∀ w ∈ Cond.classLink M.1.cls ik E9 :: Cond.initialized E9 :: vx_at0 M.1.cls ic E9 up2, w.before args s = true := by
    intro w hw9
    rcases hw w hw9 with h9 | h9
    · exact hts _ h9
    · exact va_Nw.use (xtra_on w h9) (hR.2.2.2.2.1.1 w h9)
  refine vx_throw0 (names := up2) hx hb htr hown hf (by decide +kernel) (hall _ List.mem_cons_self) (hall _ (List.mem_cons_of_mem _ List.mem_cons_self)) (fun w hw9 => hall _ (List.mem_cons_of_mem _ (List.mem_cons_of_mem _ hw9))) ?_ hR.1.2.2.2.2.2.1 hR.1.2.2.2.2.2.2 hS ?_ d0 d3 d4 d7 (fun x hx9 => (hnt x hx9).elim) ?_ ?_ (by omega) (by omega) hlk ?_ hS.2.2 (by omega) (by omega)
  · intro w hw9
    unfold vx_ot
    rcases hw w hw9 with h9 | h9
    · rw [(List.mem_filter.mp h9).2, Bool.or_true]
    · rw [xtra_on w h9, Bool.true_or]
  · rw [hl.1, hml]
  · show 2 + 3 < R.frames
    omega
  · rw [catS_eq]
    show catS st + (13 * (2 + 1) + 42) ≤ R.locals
    omega
  · intro t hv hz hk
    refine ⟨⟨w, ad, h, hG, by omega, hP.kept (fun k q hq => hk _ (hP k q hq).lt), hD⟩, Nat.le_trans hS.1 hz, fun q z1 z2 => ?_⟩
    rw [hk q (Nat.lt_of_lt_of_le z1 hS.1)]
    exact hS.2.1 q z1 z2
/-! CALLS -/
def popA {R : Sort _} : Nat → List Value → List Value → (List Value → List Value → R) → R → R
  | 0, st, acc, k, _ => k acc st
  | n + 1, v :: st, acc, k, z => popA n st (v :: acc) k z
  | _ + 1, [], _, _, z => z
theorem popA_eq {R : Sort _} : ∀ (n : Nat) (st acc : List Value) (k : List Value → List Value → R) (z : R), (∃ av rest, st = av.reverse ++ rest ∧ av.length = n ∧ popA n st acc k z = k (av ++ acc) rest) ∨ popA n st acc k z = z
  | 0, st, acc, k, z => Or.inl ⟨[], st, rfl, rfl, rfl⟩
  | n + 1, [], acc, k, z => Or.inr rfl
  | n + 1, v :: st, acc, k, z => by
    rcases popA_eq n st (v :: acc) k z with ⟨av, rest, h1, h2, h3⟩ | h
    · refine Or.inl ⟨av ++ [v], rest, ?_, ?_, ?_⟩
      · rw [h1]; simp
      · simp [h2]
      · rw [popA, h3]; simp
    · exact Or.inr (by rw [popA, h])
/-- the refs of a value, of a list of them, lie below n, or at things that nobody writes -/
def bV (n : Nat) (v : Value) : Prop := match v with
  | .ref k => k < n ∨ 1000 ≤ k
  | _ => True
theorem bV_cV {n : Nat} {ad ad' : Nat → Nat} {v : Value} (h : bV n v) (e : ∀ k, (k < n ∨ 1000 ≤ k) → ad' k = ad k) : cV ad' v = cV ad v := by
  cases v with
  | ref k => exact congrArg Value.ref (e k h)
  | _ => rfl
def bLo (n : Nat) : PLo → Prop
  | [] => True
  | none :: t => bLo n t
  | some v :: t => bV n v ∧ bLo n t
theorem bLo_at {n : Nat} : ∀ (ls : PLo) (j : Nat) (v : Value), bLo n ls → ls[j]? = some (some v) → bV n v
  | [], j, v, _, h => by simp at h
  | none :: t, 0, v, _, h => by simp at h
  | some u :: t, 0, v, hb, h => by
    simp only [List.getElem?_cons_zero, Option.some.injEq] at h
    subst h
    exact hb.1
  | none :: t, j + 1, v, hb, h => bLo_at t j v hb (by simpa using h)
  | some u :: t, j + 1, v, hb, h => bLo_at t j v hb.2 (by simpa using h)
def bSt (n : Nat) : List Value → Prop
  | [] => True
  | v :: t => bV n v ∧ bSt n t
theorem bSt_map {n : Nat} {ad ad' : Nat → Nat} (e : ∀ k, (k < n ∨ 1000 ≤ k) → ad' k = ad k) : ∀ st : List Value, bSt n st → st.map (cV ad') = st.map (cV ad)
  | [], _ => rfl
  | v :: t, h => by rw [List.map_cons, List.map_cons, bV_cV h.1 e, bSt_map e t h.2]
theorem bLo_prs {n : Nat} {ad ad' : Nat → Nat} {ls : PLo} {la : Array Slot} {k : Nat} (e : ∀ k, (k < n ∨ 1000 ≤ k) → ad' k = ad k) (hb : bLo n ls) (h : lv_has la k (prs ad ls)) : lv_has la k (prs ad' ls) := ⟨h.1, h.2.1, fun q hq => by
  obtain ⟨v, h1, h2⟩ := prs_mem.mp hq
  refine h.2.2 q (prs_mem.mpr ⟨v, h1, ?_⟩)
  rw [h2, bV_cV (bLo_at ls q.1 v hb h1) e]⟩
def kR (Kn : KN) (mc ms nx : Nat) (ls : PLo) (rest : List Value) : Option Value → PW → Prop := fun r w => match r with
  | none => Kn mc ms nx ls rest w
  | some v => Kn mc ms nx ls (v :: rest) w
/-- .. behind a callee that makes cells -/
def kRb (n : Nat) (Kn : KN) (mc ms nx : Nat) (ls : PLo) (rest : List Value) : Option Value → PW → Prop := fun r w => (bLo n ls ∧ bSt n rest) ∧ kR Kn mc ms nx ls rest r w
/-- what a method's own words are -/
def mOk (M : MM) (n : Nat) : Prop := Cond.code M.1 M.2.1 M.2.2.1 M.2.2.2 ∈ WD ∧ Cond.initialized M.1.cls ∈ WD ∧ M.1.cls ≠ "java/lang/invoke/MethodHandle" ∧ M.1.cls ≠ "java/lang/invoke/VarHandle" ∧ (parseMethodDescriptor M.1.desc).map (fun d => d.parameters.length) = some n ∧ M.2.2.1 ≤ 21 ∧ tabOf M.1 = []
theorem good_code {M : MM} {n : Nat} (h : mOk M n) : GoodIn WD (.code M.1 M.2.1 M.2.2.1 M.2.2.2 :: WD) := wd_good fun w hw => by
  rcases List.mem_cons.mp hw with rfl | hw
  · exact h.1
  · exact hw
theorem good_app {a b : List Cond} (ha : ∀ w ∈ a, w ∈ WD) (hb : GoodIn WD b) : GoodIn WD (a ++ b) := fun w hw => by
  rcases List.mem_append.mp hw with h | h
  · exact wd_good ha w h
  · exact hb w h
def CPc (X : XX) (ad : Nat → Nat) (sz : Nat) (av : List Value) (w : PW) : Array Value → State → Prop :=
  va_Pc (av.map (cV ad)) (fun U => U.heap.size = sz ∧ va_P X.1 classes (cW X.2 ad w) U.heap ∧ va_K X.1 classes (tyl X.2) U ∧ va_D (fun _ => True) (cW X.2 ad w) ∧ RO ad (va_A (cW X.2 ad w) sz) U U.heap)
theorem CPc_blind {X : XX} {ad : Nat → Nat} {sz : Nat} {av : List Value} {w : PW} : FrameBlind (CPc X ad sz av w) := by
  intro a U g mk q
  obtain ⟨q0, q1, qP, qK, qD, qR⟩ := q
  exact ⟨q0, q1, qP, va_K.moved (u := U) (U := U.calling g mk a) (Vm.Alike.refl U.vm) qK, qD, RO.same (u := U) rfl qR⟩
theorem EE_free {gp : GP} {M : MM} {d mc ms : Nat} {ls : PLo} {w : PW} {l : Launch} {p : Program} {R : Room} {s : State} {m : MethodId} {args : Array Value} {meth : Method} {c : Code} {H : Heap} {locs : List Loc} {cells slots : Nat} {X : XX} {ad : Nat → Nat} {A : Nat → Prop} {n0 : Nat} {ad0 : Nat → Nat} {mc0 ms0 : Nat} {la : Array Slot}
    (E : EE gp M d mc ms ls w l p R s m args meth c H locs cells slots X ad A n0 ad0 mc0 ms0 la) : ∀ q, va_A (cW X.2 ad w) H.size q → A q := by
  obtain ⟨-, -, -, ⟨hKK, hP, hD, hS, hA, hR, hG⟩, -⟩ := E
  rintro q (⟨k, e9, hk⟩ | hq)
  · exact hD.2 k _ hk
  · exact hA q (Nat.le_trans hS.1 hq)
theorem EE_pre {gp : GP} {M : MM} {d mc ms : Nat} {ls : PLo} {w : PW} {l : Launch} {p : Program} {R : Room} {s : State} {m : MethodId} {args : Array Value} {meth : Method} {c : Code} {H : Heap} {locs : List Loc} {cells slots : Nat} {X : XX} {ad : Nat → Nat} {A : Nat → Prop} {n0 : Nat} {ad0 : Nat → Nat} {mc0 ms0 : Nat} {la : Array Slot}
    (E : EE gp M d mc ms ls w l p R s m args meth c H locs cells slots X ad A n0 ad0 mc0 ms0 la) (av : List Value) : ∀ U : State, U.heap = H → s.WarmedH U.vm → CPc X ad H.size av w (av.map (cV ad)).toArray U := by
  intro U hU hW
  have hfree := EE_free E
  obtain ⟨-, -, -, ⟨hKK, hP, hD, hS, hA, hR, hG⟩, -⟩ := E
  refine ⟨rfl, by rw [hU], by rw [hU]; exact hP, va_K.moved hW.alike hKK, hD.weaken (fun _ _ _ _ => trivial), ?_⟩
  rw [hU]
  exact RO.moved hW ((hR.kept (fun a h1 h2 => hS.2.1 a h1 h2)).narrow hfree)
/-- behind a call -/
theorem call_use {gp : GP} {M : MM} {d mc ms mc1 ms1 pc : Nat} {ls : PLo} {rest : List Value} {w : PW} {K : Option Value → PW → Prop} {KX : String → PW → Prop} {Kn : KN} (hz : tabOf M.1 = []) (hK : ∀ mc ms pc ls st w, Kn mc ms pc ls st w → GG gp M d mc ms pc ls st w K KX)
    {l : Launch} {p : Program} {e : Env} {R : Room} {s : State} {m : MethodId} {args : Array Value} {below : List Frame} {meth : Method} {c : Code} {H : Heap} {locs : List Loc} {cells slots : Nat} {X : XX} {ad : Nat → Nat} {A : Nat → Prop} {n0 : Nat} {ad0 : Nat → Nat} {mc0 ms0 : Nat} {la : Array Slot}
    (E : EE gp M d mc ms ls w l p R s m args meth c H locs cells slots X ad A n0 ad0 mc0 ms0 la) {st0 : List Value} {a : Array Value} (hmc : mc1 ≤ mc) (hms : ms1 ≤ ms) {K1 : Option Value → PW → Prop}
    (hK1 : ∀ r w', K1 r w' → (mc1 = 0 ∨ (bLo w.length ls ∧ bSt w.length rest)) ∧ kR Kn (mc - mc1) (ms - ms1) (pc + 3) ls rest r w')
    (hr : vx_Run p l e R s m args below meth c H locs cells slots mc1 ms1 (F0 m pc la st0) (rest.map (cV ad)) (QQ X w.length mc1 ad (va_A (cW X.2 ad w) H.size) K1 a) (QX X w.length mc1 ad (va_A (cW X.2 ad w) H.size) KX) (va_A (cW X.2 ad w) H.size)) :
    W p l e R s m args below meth c H locs cells slots (vx_MQ below (QQ X n0 mc0 ad0 A K) (QX X n0 mc0 ad0 A KX) args s mc0 ms0 A) (F0 m pc la st0) := by
  have hfree := EE_free E
  obtain ⟨E1, ⟨q1, q2, q3, q4, q5, q6, q7, q8⟩, hl, ⟨hKK, hP, hD, hS, hA, hR, hG⟩, hnt0⟩ := id E
  have hnt := nt_no hz hnt0.1
  intro T hT Xs
  rcases hr T hT Xs with ⟨v, st₀, t, T', L, h0, X', hL, e1, e2, ⟨⟨r, w', ad', hv, hk, hag, hlen, hP', hD'⟩, hF⟩, st⟩ | ⟨q, st₀, t, T', L, E9, ce, h0, X', hL, e1, e2, ⟨⟨w', ad', hk, hag, hlen, hP', hD'⟩, hF⟩, hce, hcv, hcl, st⟩
  · obtain ⟨k1, k2, k3⟩ := vx_keep h0 e1 hS (fun q _ h => hfree q h) hfree hL hF
    cases hv
    obtain ⟨hbd, hk⟩ := hK1 r w' hk
    have hGn : AG n0 w'.length ad0 ad' := hG.comp hag
    have had : ∀ k, (k < w.length ∨ 1000 ≤ k) → ad' k = ad k := fun k hk9 => hag.2.2 k (by have := hag.2.1; omega)
    have hl' : lv_has la M.2.2.1 (prs ad' ls) := by
      rcases hbd with z | ⟨z, -⟩
      · have e9 : w'.length = w.length := by have := hag.1; omega
        rw [e9] at hag
        rw [hag.eq]
        exact hl
      · exact bLo_prs had z hl
    have hrest : rest.map (cV ad') = rest.map (cV ad) := by
      rcases hbd with z | ⟨-, z⟩
      · have e9 : w'.length = w.length := by have := hag.1; omega
        rw [e9] at hag
        rw [hag.eq]
      · exact bSt_map had rest z
    have hR' : RO ad' A s s.heap := hR.ad (fun k hk9 => had k (Or.inr hk9))
    have E' : EE gp M d (mc - mc1) (ms - ms1) ls w' l p R s m args meth c T'.heap (locs ++ L) (cells + mc1) (slots + ms1) X ad' A n0 ad0 mc0 ms0 la :=
      ⟨E1, ⟨q1, q2, by omega, by omega, q5, q6, by omega, q8⟩, hl', ⟨hKK, by rw [e1]; exact hP', hD'.weaken (fun _ q9 _ z => hfree _ z), k3, hA, hR', hGn⟩, hnt0⟩
    cases r with
    | none =>
      obtain ⟨t2, a1, b1⟩ := hK _ _ _ _ _ _ hk E' T' rfl X'
      refine ⟨t2, st t2 ?_, b1⟩
      show Steps p.tables e below (T'.setTop (F0 m (pc + 3) la (rest.map (cV ad)))) t2
      rw [← hrest]
      exact a1
    | some v9 =>
      obtain ⟨t2, a1, b1⟩ := hK _ _ _ _ _ _ hk E' T' rfl X'
      refine ⟨t2, st t2 ?_, b1⟩
      show Steps p.tables e below (T'.setTop (F0 m (pc + 3) la (cV ad' v9 :: rest.map (cV ad)))) t2
      rw [← hrest]
      exact a1
  · obtain ⟨k1, k2, k3⟩ := vx_keep h0 e1 hS (fun q _ h => hfree q h) hfree hL hF
    have hGn : AG n0 w'.length ad0 ad' := hG.comp hag
    have hx : vx_W p l e R s m args below meth c T'.heap (locs ++ L) (cells + mc1) (slots + ms1) (vx_MQ below (QQ X n0 mc0 ad0 A K) (QX X n0 mc0 ad0 A KX) args s mc0 ms0 A) (F0 m pc la (rest.map (cV ad))) q := by
      refine vx_out (fun x hx9 => (hnt x hx9).elim) E1.2.2.2.2.2.2.2.1 (by rw [e1]; exact hce) hcv hcl (fun t9 ht9 _ => ?_) k3.2.2 (by omega) (by omega)
      exact ⟨⟨w', ad', hk, hGn, by omega, by rw [ht9, e1]; exact hP', hD'.weaken (fun _ q9 _ z => hfree _ z)⟩, k3.F ht9⟩
    obtain ⟨t2, a1, b1⟩ := hx T' rfl X'
    exact ⟨t2, st.trans a1, b1⟩
def GOn (n : Nat) (gp : GP) (M : MM) (d mc ms pc : Nat) (ls : PLo) (st : List Value) (w : PW) (K : Option Value → PW → Prop) (KX : String → PW → Prop) : Prop := if h : n = 0 then GG gp M d mc ms pc ls st w K KX else GOn (n - 1) gp M d mc ms pc ls st w K KX
termination_by n
decreasing_by omega
def WQn (n : Nat) (M : MM) (d mc ms : Nat) (av : List Value) (w : PW) (K : Option Value → PW → Prop) (KX : String → PW → Prop) : Prop := if h : n = 0 then WP M d mc ms av w K KX else WQn (n - 1) M d mc ms av w K KX
termination_by n
decreasing_by omega
abbrev GO (M : MM) (d mc ms pc : Nat) (ls : PLo) (st : List Value) (w : PW) (K : Option Value → PW → Prop) (KX : String → PW → Prop) : Prop := GOn 0 gT M d mc ms pc ls st w K KX
abbrev WQ (M : MM) (d mc ms : Nat) (av : List Value) (w : PW) (K : Option Value → PW → Prop) (KX : String → PW → Prop) : Prop := WQn 0 M d mc ms av w K KX
theorem GO_iff {M : MM} {d mc ms pc : Nat} {ls : PLo} {st : List Value} {w : PW} {K : Option Value → PW → Prop} {KX : String → PW → Prop} : GO M d mc ms pc ls st w K KX ↔ GG gT M d mc ms pc ls st w K KX := by
  unfold GO
  rw [GOn, dif_pos rfl]
theorem GOn_iff {gp : GP} {M : MM} {d mc ms pc : Nat} {ls : PLo} {st : List Value} {w : PW} {K : Option Value → PW → Prop} {KX : String → PW → Prop} : GOn 0 gp M d mc ms pc ls st w K KX ↔ GG gp M d mc ms pc ls st w K KX := by
  rw [GOn, dif_pos rfl]
theorem WQ_iff {M : MM} {d mc ms : Nat} {av : List Value} {w : PW} {K : Option Value → PW → Prop} {KX : String → PW → Prop} : WQ M d mc ms av w K KX ↔ WP M d mc ms av w K KX := by
  unfold WQ
  rw [WQn, dif_pos rfl]
/-- a call of a method that makes nothing: what is asked of it -/
def cS (M' : MM) (Kn : KN) (KX : String → PW → Prop) (d mc ms nx : Nat) (ls : PLo) (w : PW) (av rest : List Value) : Prop := if catS rest ≤ 8 then (match d with
    | d' + 1 => WQ M' d' 0 0 av w (kR Kn mc ms nx ls rest) KX
    | 0 => False) else False
/-- .. of one that makes cells: its budget is told -/
def cB (M' : MM) (mc1 ms1 : Nat) (Kn : KN) (KX : String → PW → Prop) (d mc ms nx : Nat) (ls : PLo) (w : PW) (av rest : List Value) : Prop := if catS rest ≤ 8 then (match d with
    | d' + 1 => (mc1 ≤ mc ∧ ms1 ≤ ms) ∧ WQ M' d' mc1 ms1 av w (kRb w.length Kn (mc - mc1) (ms - ms1) nx ls rest) KX
    | 0 => False) else False
/-- the receiver is of this class -/
def cR (ci : Nat) (w : PW) (k : List Value → List Value → Prop) (av rest : List Value) : Prop := match av with
    | .ref a :: _ => (match gW w a with
      | some (.inr (c9, _)) => if c9 = ci then k av rest else False
      | _ => False)
    | _ => False
def o_call (M' : MM) (n nx : Nat) : OP := fun Kn _ KX d mc ms ls st w => popA n st [] (cS M' Kn KX d mc ms nx ls w) False
def o_callB (M' : MM) (n mc1 ms1 nx : Nat) : OP := fun Kn _ KX d mc ms ls st w => popA n st [] (cB M' mc1 ms1 Kn KX d mc ms nx ls w) False
def o_callV (M' : MM) (ci n nx : Nat) : OP := fun Kn _ KX d mc ms ls st w => popA n st [] (cR ci w (cS M' Kn KX d mc ms nx ls w)) False
def o_callVB (M' : MM) (ci n mc1 ms1 nx : Nat) : OP := fun Kn _ KX d mc ms ls st w => popA n st [] (cR ci w (cB M' mc1 ms1 Kn KX d mc ms nx ls w)) False
theorem room_le {d d' : Nat} {M' : MM} {R : Room} (hm : M'.2.2.1 ≤ 21) (hd : d = d' + 1) (h1 : d ≤ R.frames) (h2 : 40 * d ≤ R.locals) : d' + 1 ≤ R.frames ∧ 8 + (M'.2.2.1 + 11) + 40 * d' ≤ R.locals := ⟨by omega, by omega⟩
/-- both kinds of callee at once -/
theorem cS_un {M' : MM} {Kn : KN} {KX : String → PW → Prop} {d mc ms nx : Nat} {ls : PLo} {w : PW} {av rest : List Value} (h : cS M' Kn KX d mc ms nx ls w av rest) : catS rest ≤ 8 ∧ ∃ d', d = d' + 1 ∧ ∃ mc1 ms1 K1, mc1 ≤ mc ∧ ms1 ≤ ms ∧ WP M' d' mc1 ms1 av w K1 KX ∧ ∀ r w', K1 r w' → (mc1 = 0 ∨ (bLo w.length ls ∧ bSt w.length rest)) ∧ kR Kn (mc - mc1) (ms - ms1) nx ls rest r w' := by
  unfold cS at h
  split at h
  · next hc =>
    cases d with
    | zero => exact h.elim
    | succ d' => exact ⟨hc, d', rfl, 0, 0, _, Nat.zero_le _, Nat.zero_le _, WQ_iff.mp h, fun r w' hk => ⟨Or.inl rfl, hk⟩⟩
  · exact h.elim
theorem cB_un {M' : MM} {mc1 ms1 : Nat} {Kn : KN} {KX : String → PW → Prop} {d mc ms nx : Nat} {ls : PLo} {w : PW} {av rest : List Value} (h : cB M' mc1 ms1 Kn KX d mc ms nx ls w av rest) : catS rest ≤ 8 ∧ ∃ d', d = d' + 1 ∧ ∃ mc1 ms1 K1, mc1 ≤ mc ∧ ms1 ≤ ms ∧ WP M' d' mc1 ms1 av w K1 KX ∧ ∀ r w', K1 r w' → (mc1 = 0 ∨ (bLo w.length ls ∧ bSt w.length rest)) ∧ kR Kn (mc - mc1) (ms - ms1) nx ls rest r w' := by
  unfold cB at h
  split at h
  · next hc =>
    cases d with
    | zero => exact h.elim
    | succ d' => exact ⟨hc, d', rfl, mc1, ms1, _, h.1.1, h.1.2, WQ_iff.mp h.2, fun r w' hk => ⟨Or.inr hk.1, hk.2⟩⟩
  · exact h.elim
def unP (M' : MM) (Kn : KN) (KX : String → PW → Prop) (d mc ms nx : Nat) (ls : PLo) (w : PW) (av rest : List Value) : Prop := catS rest ≤ 8 ∧ ∃ d', d = d' + 1 ∧ ∃ mc1 ms1 K1, mc1 ≤ mc ∧ ms1 ≤ ms ∧ WP M' d' mc1 ms1 av w K1 KX ∧ ∀ r w', K1 r w' → (mc1 = 0 ∨ (bLo w.length ls ∧ bSt w.length rest)) ∧ kR Kn (mc - mc1) (ms - ms1) nx ls rest r w'
/-- a static method, of the same class or of another -/
theorem runS_of {gp : GP} {M M' : MM} {pc idx n : Nat} (hz : tabOf M.1 = []) (hd : decode M.2.1 pc = .ok (.invokestatic idx, 3)) (ho : mOk M' n) (hl : Cond.methodLink M.1.cls idx M'.1 ∈ WD) (hs : Cond.static M'.1 ∈ WD) {d mc ms : Nat} {ls : PLo} {w : PW} {K : Option Value → PW → Prop} {KX : String → PW → Prop} {Kn : KN} (hK : ∀ mc ms pc ls st w, Kn mc ms pc ls st w → GG gp M d mc ms pc ls st w K KX)
    {av rest : List Value} (hn : av.length = n) (h : unP M' Kn KX d mc ms (pc + 3) ls w av rest) : GG gp M d mc ms pc ls (av.reverse ++ rest) w K KX := by
  intro l p e R s m args below meth c H locs cells slots X ad A n0 ad0 mc0 ms0 la E
  obtain ⟨⟨htr, hx, hb, hml, hr0, hown, hts, hlk, hnm⟩, ⟨q1, q2, q3, q4, q5, q6, q7, q8⟩, hlv, ⟨hKK, hP, hD, hS, hA, hR, hG⟩, hnt⟩ := id E
  obtain ⟨hc8, d', rfl, mc1, ms1, K1, g1, g2, hW, hK1⟩ := h
  have hM := hW (l := l) (X := X) (ad := ad) (sz := H.size) htr (by omega) (by omega)
  rw [cdOf_n ho.2.2.2.2.2.2] at hM
  have cw := va_cwS (R := R) (rm := { frames := d', cells := mc1, slots := ms1, locals := 40 * d' }) n hts (good_app (a := [.methodLink M.1.cls idx M'.1, .static M'.1, .initialized M'.1.cls]) (fun w hw => by
    simp only [List.mem_cons, List.not_mem_nil, or_false] at hw
    rcases hw with rfl | rfl | rfl
    · exact hl
    · exact hs
    · exact ho.2.1) (good_code ho)) rfl rfl rfl ⟨ho.2.2.1, ho.2.2.2.1, ho.2.2.2.2.1⟩ (room_le ho.2.2.2.2.2.1 rfl q1 q2)
  refine call_use (mc1 := mc1) (ms1 := ms1) (rest := rest) hz hK E g1 g2 hK1 (vx_runS (As := av.map (cV ad)) ⟨hx, hb, hml, hown, hts⟩ hM cw ⟨CPc_blind, EE_pre E av⟩ rfl (by rw [List.length_map]; exact hn) hlv.1 ?_ ?_ hd ⟨by omega, by omega⟩)
  · show (av.reverse ++ rest).map (cV ad) = (av.map (cV ad)).reverse ++ rest.map (cV ad)
    rw [List.map_append, List.map_reverse]
  · show 2 * 0 + ((rest.map (cV ad)).map fun v => v.category).sum ≤ 8
    rw [catS_eq]
    omega
theorem s_callS {M M' : MM} {pc idx n : Nat} (hz : tabOf M.1 = []) (hd : decode M.2.1 pc = .ok (.invokestatic idx, 3)) (ho : mOk M' n) (hl : Cond.methodLink M.1.cls idx M'.1 ∈ WD) (hs : Cond.static M'.1 ∈ WD) : SO M pc (o_call M' n (pc + 3)) := by
  intro d mc ms ls st w K KX Kn gp hK h
  unfold o_call at h
  rcases popA_eq n st [] (cS M' Kn KX d mc ms (pc + 3) ls w) False with ⟨av, rest, e1, e2, e3⟩ | e3
  · rw [e3, List.append_nil] at h
    rw [e1]
    exact runS_of hz hd ho hl hs hK e2 (cS_un h)
  · rw [e3] at h
    exact h.elim
theorem s_callSB {M M' : MM} {pc idx n mc1 ms1 : Nat} (hz : tabOf M.1 = []) (hd : decode M.2.1 pc = .ok (.invokestatic idx, 3)) (ho : mOk M' n) (hl : Cond.methodLink M.1.cls idx M'.1 ∈ WD) (hs : Cond.static M'.1 ∈ WD) : SO M pc (o_callB M' n mc1 ms1 (pc + 3)) := by
  intro d mc ms ls st w K KX Kn gp hK h
  unfold o_callB at h
  rcases popA_eq n st [] (cB M' mc1 ms1 Kn KX d mc ms (pc + 3) ls w) False with ⟨av, rest, e1, e2, e3⟩ | e3
  · rw [e3, List.append_nil] at h
    rw [e1]
    exact runS_of hz hd ho hl hs hK e2 (cB_un h)
  · rw [e3] at h
    exact h.elim
/-- a method of an object; its class by the receiver's cell -/
theorem runV_of {gp : GP} {M M' : MM} {pc idx n ci N : Nat} {C : String} {T : u_T} (hz : tabOf M.1 = []) (hd : decode M.2.1 pc = .ok (.invokevirtual idx, 3)) (ho : mOk M' n) (hl : Cond.methodLink M.1.cls idx M'.1 ∈ WD) (hi : Cond.instanceMethod M'.1 ∈ WD) (hs : Cond.selects C M'.1 M'.1 ∈ WD) (hC : M'.1.cls = C) (hc : classes[ci]? = some (C, T, N)) {d mc ms : Nat} {ls : PLo} {w : PW} {K : Option Value → PW → Prop} {KX : String → PW → Prop} {Kn : KN} (hK : ∀ mc ms pc ls st w, Kn mc ms pc ls st w → GG gp M d mc ms pc ls st w K KX)
    {av rest : List Value} (hn : av.length = n + 1) (h : cR ci w (unP M' Kn KX d mc ms (pc + 3) ls w) av rest) : GG gp M d mc ms pc ls (av.reverse ++ rest) w K KX := by
  intro l p e R s m args below meth c H locs cells slots X ad A n0 ad0 mc0 ms0 la E
  obtain ⟨⟨htr, hx, hb, hml, hr0, hown, hts, hlk, hnm⟩, ⟨q1, q2, q3, q4, q5, q6, q7, q8⟩, hlv, ⟨hKK, hP, hD, hS, hA, hR, hG⟩, hnt⟩ := id E
  unfold cR at h
  split at h
  · next a av =>
    split at h
    · next c9 fs hg =>
      split at h
      · next hci =>
        subst hci
        obtain ⟨hc8, d', rfl, mc1, ms1, K1, g1, g2, hW, hK1⟩ := h
        have hM := hW (l := l) (X := X) (ad := ad) (sz := H.size) htr (by omega) (by omega)
        rw [cdOf_n ho.2.2.2.2.2.2] at hM
        have cw := cwV (R := R) (rm := { frames := d', cells := mc1, slots := ms1, locals := 40 * d' }) n hts (good_app (a := [.methodLink M.1.cls idx M'.1, .instanceMethod M'.1, .selects C M'.1 M'.1, .initialized C]) (fun w hw => by
          simp only [List.mem_cons, List.not_mem_nil, or_false] at hw
          rcases hw with rfl | rfl | rfl | rfl
          · exact hl
          · exact hi
          · exact hs
          · rw [← hC]; exact ho.2.1) (good_code ho)) rfl rfl rfl ⟨hC, ho.2.2.1, ho.2.2.2.1, ho.2.2.2.2.1⟩ (room_le ho.2.2.2.2.2.1 rfl q1 q2)
        refine call_use (mc1 := mc1) (ms1 := ms1) (rest := rest) hz hK E g1 g2 hK1 (vx_runV (As := av.map (cV ad)) (b := ad a) (C := C) ⟨hx, hb, hml, hown, hts⟩ hM cw ⟨CPc_blind, va_recv hKK hP hc (cW_at (by rw [← gW_eq]; exact hg)), EE_pre E (.ref a :: av)⟩ rfl ?_ hlv.1 ?_ ?_ hd ⟨by omega, by omega⟩)
        · rw [List.length_map]
          simpa using hn
        · show ((Value.ref a :: av).reverse ++ rest).map (cV ad) = (av.map (cV ad)).reverse ++ .ref (ad a) :: rest.map (cV ad)
          rw [List.map_append, List.map_reverse]
          simp [cV]
        · show 2 * 0 + ((rest.map (cV ad)).map fun v => v.category).sum ≤ 8
          rw [catS_eq]
          omega
      · exact h.elim
    · exact h.elim
  · exact h.elim
theorem cR_mono {ci : Nat} {w : PW} {k k' : List Value → List Value → Prop} {av rest : List Value} (hk : k av rest → k' av rest) (h : cR ci w k av rest) : cR ci w k' av rest := by
  cases av with
  | nil => exact h.elim
  | cons a av =>
    cases a with
    | ref a =>
      cases hg : gW w a with
      | none =>
        simp only [cR, hg] at h
      | some x =>
        cases x with
        | inl z => simp only [cR, hg] at h
        | inr z =>
          obtain ⟨c9, fs⟩ := z
          simp only [cR, hg] at h ⊢
          by_cases hci : c9 = ci
          · rw [if_pos hci] at h ⊢
            exact hk h
          · rw [if_neg hci] at h
            exact h.elim
    | _ => exact h.elim
theorem s_callV {M M' : MM} {pc idx n ci N : Nat} {C : String} {T : u_T} (hz : tabOf M.1 = []) (hd : decode M.2.1 pc = .ok (.invokevirtual idx, 3)) (ho : mOk M' n) (hl : Cond.methodLink M.1.cls idx M'.1 ∈ WD) (hi : Cond.instanceMethod M'.1 ∈ WD) (hs : Cond.selects C M'.1 M'.1 ∈ WD) (hC : M'.1.cls = C) (hc : classes[ci]? = some (C, T, N)) : SO M pc (o_callV M' ci (n + 1) (pc + 3)) := by
  intro d mc ms ls st w K KX Kn gp hK h
  unfold o_callV at h
  rcases popA_eq (n + 1) st [] (cR ci w (cS M' Kn KX d mc ms (pc + 3) ls w)) False with ⟨av, rest, e1, e2, e3⟩ | e3
  · rw [e3, List.append_nil] at h
    rw [e1]
    exact runV_of hz hd ho hl hi hs hC hc hK e2 (cR_mono cS_un h)
  · rw [e3] at h
    exact h.elim
theorem s_callVB {M M' : MM} {pc idx n ci N mc1 ms1 : Nat} {C : String} {T : u_T} (hz : tabOf M.1 = []) (hd : decode M.2.1 pc = .ok (.invokevirtual idx, 3)) (ho : mOk M' n) (hl : Cond.methodLink M.1.cls idx M'.1 ∈ WD) (hi : Cond.instanceMethod M'.1 ∈ WD) (hs : Cond.selects C M'.1 M'.1 ∈ WD) (hC : M'.1.cls = C) (hc : classes[ci]? = some (C, T, N)) : SO M pc (o_callVB M' ci (n + 1) mc1 ms1 (pc + 3)) := by
  intro d mc ms ls st w K KX Kn gp hK h
  unfold o_callVB at h
  rcases popA_eq (n + 1) st [] (cR ci w (cB M' mc1 ms1 Kn KX d mc ms (pc + 3) ls w)) False with ⟨av, rest, e1, e2, e3⟩ | e3
  · rw [e3, List.append_nil] at h
    rw [e1]
    exact runV_of hz hd ho hl hi hs hC hc hK e2 (cR_mono cB_un h)
  · rw [e3] at h
    exact h.elim
