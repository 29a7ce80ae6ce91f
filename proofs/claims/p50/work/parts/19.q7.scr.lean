/-! THE LAW: its script, at place 3300, which nobody writes -/
def gS (L : Nat) (xs : Nat → Int32) : GP := fun s A b => va_X b L xs s s.heap ∧ b < s.heap.size ∧ ¬ A b
def o_sln (L nx : Nat) : OP := fun Kn _ _ _ mc ms ls st w => match st with
  | .ref a :: r => (match Nat.beq a 3300 with
    | true => Kn mc ms nx ls (.int (Int32.ofNat L) :: r) w
    | false => False)
  | _ => False
theorem s_sln {M : MM} {pc L : Nat} {xs : Nat → Int32} (hd : decode M.2.1 pc = .ok (.arraylength, 1)) : SP (gS L xs) M pc (o_sln L (pc + 1)) := by
  intro d mc ms ls st w K KX Kn hK h l p e R s m args below meth c H locs cells slots X ad A n0 ad0 mc0 ms0 la E
  obtain ⟨⟨htr, hx, hb, hml, hr, hown, hts, hlk, hnm⟩, -, hl, ⟨hKK, hP, hD, hS, hA, hR, hG⟩, hnt, hX, hbl, hbA⟩ := id E
  simp only [o_sln] at h
  split at h
  · next a r =>
    split at h
    · next ha =>
      have ha := Nat.eq_of_beq_eq_true ha
      subst ha
      have e0 : ad 3300 = ad0 3300 := hG.2.2 3300 (Or.inr (Nat.le_trans hG.2.1 (by decide)))
      show W p l e R s m args below meth c H locs cells slots _ (F0 m pc la (.ref (ad 3300) :: r.map (cV ad)))
      rw [e0]
      exact va_slen hx hb hX hbl hbA hS hd (hK _ _ _ _ _ _ h E)
    · exact h.elim
  · exact h.elim
def o_sld (L : Nat) (xs : Nat → Int32) (nx : Nat) : OP := fun Kn _ _ _ mc ms ls st w => match st with
  | .int i :: .ref a :: r => (match Nat.beq a 3300 with
    | true => vp_in i L ∧ Kn mc ms nx ls (.int (xs i.toNatClampNeg) :: r) w
    | false => False)
  | _ => False
theorem s_sld {M : MM} {pc L : Nat} {xs : Nat → Int32} (hd : decode M.2.1 pc = .ok (.iaload, 1)) : SP (gS L xs) M pc (o_sld L xs (pc + 1)) := by
  intro d mc ms ls st w K KX Kn hK h l p e R s m args below meth c H locs cells slots X ad A n0 ad0 mc0 ms0 la E
  obtain ⟨⟨htr, hx, hb, hml, hr, hown, hts, hlk, hnm⟩, -, hl, ⟨hKK, hP, hD, hS, hA, hR, hG⟩, hnt, hX, hbl, hbA⟩ := id E
  simp only [o_sld] at h
  split at h
  · next i a r =>
    split at h
    · next ha =>
      obtain ⟨hin, h⟩ := h
      have ha := Nat.eq_of_beq_eq_true ha
      subst ha
      have e0 : ad 3300 = ad0 3300 := hG.2.2 3300 (Or.inr (Nat.le_trans hG.2.1 (by decide)))
      show W p l e R s m args below meth c H locs cells slots _ (F0 m pc la (.int i :: .ref (ad 3300) :: r.map (cV ad)))
      rw [e0]
      exact va_sld hx hb hX hbl hbA hS hin hd (hK _ _ _ _ _ _ h E)
    · exact h.elim
  · exact h.elim
theorem acP_nil {gp : GP} {M : MM} : ∀ x ∈ ([] : TT), SP gp M x.1 x.2 := fun _ h => nomatch h
theorem acP {gp : GP} {M : MM} {p : Nat} {o : OP} {t : TT} (h : SP gp M p o) (r : ∀ x ∈ t, SP gp M x.1 x.2) : ∀ x ∈ ((p, o) :: t), SP gp M x.1 x.2 := List.forall_mem_cons.mpr ⟨h, r⟩
theorem GOn_le {gp : GP} {M : MM} {d mc ms mc' ms' pc : Nat} {ls : PLo} {st : List Value} {w : PW} {K : Option Value → PW → Prop} {KX : String → PW → Prop} (h1 : mc ≤ mc') (h2 : ms ≤ ms') (h : GOn 0 gp M d mc ms pc ls st w K KX) : GOn 0 gp M d mc' ms' pc ls st w K KX := by
  refine GOn_iff.mpr ?_
  intro l p e R s m args below meth c H locs cells slots X ad A n0 ad0 mc0 ms0 la E
  obtain ⟨E1, ⟨q1, q2, q3, q4, q5, q6, q7, q8⟩, E3⟩ := E
  exact GOn_iff.mp h ⟨E1, ⟨q1, q2, by omega, by omega, q5, q6, by omega, q8⟩, E3⟩
theorem GOn_weak {gp : GP} {M : MM} {d mc ms pc : Nat} {ls ls' : PLo} {st : List Value} {w : PW} {K : Option Value → PW → Prop} {KX : String → PW → Prop} (hs : ∀ (j : Nat) (v : Value), ls'[j]? = some (some v) → ls[j]? = some (some v)) (h : GOn 0 gp M d mc ms pc ls' st w K KX) : GOn 0 gp M d mc ms pc ls st w K KX := GOn_iff.mpr (GG.weaken hs (GOn_iff.mp h))
theorem GOn_take {gp : GP} (n : Nat) {M : MM} {d mc ms pc : Nat} {ls : PLo} {st : List Value} {w : PW} {K : Option Value → PW → Prop} {KX : String → PW → Prop} (h : GOn 0 gp M d mc ms pc (ls.take n) st w K KX) : GOn 0 gp M d mc ms pc ls st w K KX := GOn_weak (fun j v hj => by
  rw [List.getElem?_take] at hj
  split at hj
  · exact hj
  · cases hj) h
/-! METHODS THAT READ THE SCRIPT: contracts with it -/
def WG (L : Nat) (xs : Nat → Int32) (M : MM) (d mc ms : Nat) (av : List Value) (w : PW) (K : Option Value → PW → Prop) (KX : String → PW → Prop) : Prop :=
  ∀ ⦃l : Launch⦄ ⦃X : XX⦄ ⦃ad : Nat → Nat⦄ ⦃sz : Nat⦄, l.stackTraces = false → w.length ≤ 1000 → w.length + mc ≤ 1000 →
    vx_Met l M.1 (cdOf M :: WD) { frames := d, cells := mc, slots := ms, locals := 40 * d }
      (va_Pc (av.map (cV ad)) (fun U => (U.heap.size = sz ∧ va_P X.1 classes (cW X.2 ad w) U.heap ∧ va_K X.1 classes (tyl X.2) U ∧ va_D (fun _ => True) (cW X.2 ad w) ∧ RO ad (va_A (cW X.2 ad w) sz) U U.heap) ∧ gS L xs U (va_A (cW X.2 ad w) sz) (ad 3300)))
      (QQ X w.length mc ad (va_A (cW X.2 ad w) sz) K) (QX X w.length mc ad (va_A (cW X.2 ad w) sz) KX) mc ms (va_A (cW X.2 ad w) sz)
theorem WG_in {L : Nat} {xs : Nat → Int32} {M : MM} {d mc ms : Nat} {av : List Value} {w : PW} {K : Option Value → PW → Prop} {KX : String → PW → Prop} (hy : plainName M.1.cls = true) (hz : tabOf M.1 = []) (hlen : (lg_sl (av.map (cV (fun k => k)))).length ≤ M.2.2.1)
    (h : GG (gS L xs) M d mc ms 0 (inL av) [] w K KX) : WG L xs M d mc ms av w K KX := by
  intro l X ad sz htr hw9 hw8
  rw [cdOf_n hz]
  refine vx_ofW (cc := M.2.1) (maxL := M.2.2.1) (ret := M.2.2.2) hy rfl ?_
  intro p e s m args below meth c s₁ B hml hnt hv
  obtain ⟨rfl, ⟨hsz, hP, hK, hD, hR⟩, hgs⟩ := hv
  have hts := atoms_spec (ws := .code M.1 M.2.1 M.2.2.1 M.2.2.2 :: WD) B.pre
  subst hsz
  have hlen' : (lg_sl (av.map (cV ad))).length ≤ M.2.2.1 := by
    have e : ∀ l : List Value, (lg_sl (l.map (cV ad))).length = (lg_sl (l.map (cV (fun k => k)))).length := by
      intro l
      induction l with
      | nil => rfl
      | cons a t ih =>
        simp only [lg_sl, List.map_cons, List.flatMap_cons, List.length_append] at ih ⊢
        rw [ih]
        congr 1
        cases a <;> rfl
    rw [e]; exact hlen
  have hl := lv_entry (av.map (cV ad)) (n := M.2.2.1) hlen'
  rw [lg_entry_eq]
  generalize (lg_sl (av.map (cV ad)) ++ List.replicate (M.2.2.1 - (lg_sl (av.map (cV ad))).length) Slot.unset).toArray = la at hl ⊢
  have E : EE (gS L xs) M d mc ms (inL av) w l p ({ frames := d, cells := mc, slots := ms, locals := 40 * d } : Room) s m (av.map (cV ad)).toArray meth c s.heap [] 0 0 X ad (va_A (cW X.2 ad w) s.heap.size) w.length ad mc ms la :=
    ⟨⟨htr, B.exec, B.bytes, hml, B.returns, findClass_of_methodNamed B.named, fun w hw => hts w (List.mem_cons_of_mem _ hw), B.notSynchronized, (name_of_methodNamed B.named B.method).1⟩,
      ⟨Nat.le_refl _, Nat.le_refl _, by omega, by omega, Nat.le_refl _, Nat.le_refl _, Nat.le_refl _, hw8⟩, hl_in hl, ⟨hK, hP, hD.self, va_S.rf, fun q hq => Or.inr hq, hR, AG.rf hw9⟩, by rw [hz]; exact ⟨nt_nil hnt, hgs⟩⟩
  exact h E
def WGn (n : Nat) (L : Nat) (xs : Nat → Int32) (M : MM) (d mc ms : Nat) (av : List Value) (w : PW) (K : Option Value → PW → Prop) (KX : String → PW → Prop) : Prop := if h : n = 0 then WG L xs M d mc ms av w K KX else WGn (n - 1) L xs M d mc ms av w K KX
termination_by n
decreasing_by omega
theorem WG_iff {L : Nat} {xs : Nat → Int32} {M : MM} {d mc ms : Nat} {av : List Value} {w : PW} {K : Option Value → PW → Prop} {KX : String → PW → Prop} : WGn 0 L xs M d mc ms av w K KX ↔ WG L xs M d mc ms av w K KX := by
  rw [WGn, dif_pos rfl]
def CPg (L : Nat) (xs : Nat → Int32) (X : XX) (ad : Nat → Nat) (sz : Nat) (av : List Value) (w : PW) : Array Value → State → Prop :=
  va_Pc (av.map (cV ad)) (fun U => (U.heap.size = sz ∧ va_P X.1 classes (cW X.2 ad w) U.heap ∧ va_K X.1 classes (tyl X.2) U ∧ va_D (fun _ => True) (cW X.2 ad w) ∧ RO ad (va_A (cW X.2 ad w) sz) U U.heap) ∧ gS L xs U (va_A (cW X.2 ad w) sz) (ad 3300))
theorem CPg_blind {L : Nat} {xs : Nat → Int32} {X : XX} {ad : Nat → Nat} {sz : Nat} {av : List Value} {w : PW} : FrameBlind (CPg L xs X ad sz av w) := by
  intro a U g mk q
  obtain ⟨q0, ⟨q1, qP, qK, qD, qR⟩, q2, q3, q4⟩ := q
  exact ⟨q0, ⟨q1, qP, va_K.moved (u := U) (U := U.calling g mk a) (Vm.Alike.refl U.vm) qK, qD, RO.same (u := U) rfl qR⟩, va_X.moved (u := U) (U := U.calling g mk a) (Vm.Alike.refl U.vm) q2, q3, q4⟩
theorem EE_preg {L : Nat} {xs : Nat → Int32} {M : MM} {d mc ms : Nat} {ls : PLo} {w : PW} {l : Launch} {p : Program} {R : Room} {s : State} {m : MethodId} {args : Array Value} {meth : Method} {c : Code} {H : Heap} {locs : List Loc} {cells slots : Nat} {X : XX} {ad : Nat → Nat} {A : Nat → Prop} {n0 : Nat} {ad0 : Nat → Nat} {mc0 ms0 : Nat} {la : Array Slot}
    (E : EE (gS L xs) M d mc ms ls w l p R s m args meth c H locs cells slots X ad A n0 ad0 mc0 ms0 la) (av : List Value) : ∀ U : State, U.heap = H → s.WarmedH U.vm → CPg L xs X ad H.size av w (av.map (cV ad)).toArray U := by
  intro U hU hW
  have hfree := EE_free E
  obtain ⟨-, -, -, ⟨hKK, hP, hD, hS, hA, hR, hG⟩, -, hX, hbl, hbA⟩ := E
  have e0 : ad 3300 = ad0 3300 := hG.2.2 3300 (Or.inr (Nat.le_trans hG.2.1 (by decide)))
  refine ⟨rfl, ⟨by rw [hU], by rw [hU]; exact hP, va_K.moved hW.alike hKK, hD.weaken (fun _ _ _ _ => trivial), ?_⟩, ?_, ?_, ?_⟩
  · rw [hU]
    exact RO.moved hW ((hR.kept (fun a h1 h2 => hS.2.1 a h1 h2)).narrow hfree)
  · rw [hU, e0]
    exact va_X.moved hW.alike (hX.kept (hS.2.1 _ hbl hbA))
  · rw [hU, e0]
    exact Nat.lt_of_lt_of_le hbl hS.1
  · rw [e0]
    exact fun h9 => hbA (hfree _ h9)
def cG (L : Nat) (xs : Nat → Int32) (M' : MM) (mc1 ms1 : Nat) (Kn : KN) (KX : String → PW → Prop) (d mc ms nx : Nat) (ls : PLo) (w : PW) (av rest : List Value) : Prop := if catS rest ≤ 8 then (match d with
    | d' + 1 => (mc1 ≤ mc ∧ ms1 ≤ ms) ∧ WGn 0 L xs M' d' mc1 ms1 av w (kRb w.length Kn (mc - mc1) (ms - ms1) nx ls rest) KX
    | 0 => False) else False
def o_callG (L : Nat) (xs : Nat → Int32) (M' : MM) (n mc1 ms1 nx : Nat) : OP := fun Kn _ KX d mc ms ls st w => popA n st [] (cG L xs M' mc1 ms1 Kn KX d mc ms nx ls w) False
theorem s_callG {L : Nat} {xs : Nat → Int32} {M M' : MM} {pc idx n mc1 ms1 : Nat} (hz : tabOf M.1 = []) (hd : decode M.2.1 pc = .ok (.invokestatic idx, 3)) (ho : mOk M' n) (hl : Cond.methodLink M.1.cls idx M'.1 ∈ WD) (hs : Cond.static M'.1 ∈ WD) : SP (gS L xs) M pc (o_callG L xs M' n mc1 ms1 (pc + 3)) := by
  intro d mc ms ls st w K KX Kn hK h
  unfold o_callG at h
  rcases popA_eq n st [] (cG L xs M' mc1 ms1 Kn KX d mc ms (pc + 3) ls w) False with ⟨av, rest, e1, e2, e3⟩ | e3
  · rw [e3, List.append_nil] at h
    rw [e1]
    unfold cG at h
    split at h
    · next hc8 =>
      cases d with
      | zero => exact h.elim
      | succ d' =>
        obtain ⟨⟨g1, g2⟩, hW⟩ := h
        intro l p e R s m args below meth c H locs cells slots X ad A n0 ad0 mc0 ms0 la E
        obtain ⟨⟨htr, hx, hb, hml, hr0, hown, hts, hlk, hnm⟩, ⟨q1, q2, q3, q4, q5, q6, q7, q8⟩, hlv, ⟨hKK, hP, hD, hS, hA, hR, hG⟩, hnt⟩ := id E
        have hM := WG_iff.mp hW (l := l) (X := X) (ad := ad) (sz := H.size) htr (by omega) (by omega)
        rw [cdOf_n ho.2.2.2.2.2.2] at hM
        have cw := va_cwS (R := R) (rm := { frames := d', cells := mc1, slots := ms1, locals := 40 * d' }) n hts (good_app (a := [.methodLink M.1.cls idx M'.1, .static M'.1, .initialized M'.1.cls]) (fun w hw => by
          simp only [List.mem_cons, List.not_mem_nil, or_false] at hw
          rcases hw with rfl | rfl | rfl
          · exact hl
          · exact hs
          · exact ho.2.1) (good_code ho)) rfl rfl rfl ⟨ho.2.2.1, ho.2.2.2.1, ho.2.2.2.2.1⟩ (room_le ho.2.2.2.2.2.1 rfl q1 q2)
        refine call_use (mc1 := mc1) (ms1 := ms1) (rest := rest) hz hK E g1 g2 (fun r w' hk => ⟨Or.inr hk.1, hk.2⟩) (vx_runS (As := av.map (cV ad)) ⟨hx, hb, hml, hown, hts⟩ hM cw ⟨CPg_blind, EE_preg E av⟩ rfl (by rw [List.length_map]; exact e2) hlv.1 ?_ ?_ hd ⟨by omega, by omega⟩)
        · show (av.reverse ++ rest).map (cV ad) = (av.map (cV ad)).reverse ++ rest.map (cV ad)
          rw [List.map_append, List.map_reverse]
        · show 2 * 0 + ((rest.map (cV ad)).map fun v => v.category).sum ≤ 8
          rw [catS_eq]
          omega
    · exact h.elim
  · rw [e3] at h
    exact h.elim
/-! frames -/
theorem WG_fr {L : Nat} {xs : Nat → Int32} {M : MM} {d mc ms : Nat} {av : List Value} {w : PW} {K : Option Value → PW → Prop} {KX : String → PW → Prop} (is : List Nat) (w' : PW) (av' : List Value) (hl : Nat.ble (is.length + mc) 1000 = true) (hn : va_nd is = true) (hw : subW w is w') (hav : av = av'.map (cV (rnN is w.length)))
    (h : WGn 0 L xs M d mc ms av' w' (frK is w K) (frX is w KX)) : WGn 0 L xs M d mc ms av w K KX := by
  refine WG_iff.mpr ?_
  intro l X ad sz htr hw9 hw8
  have hl1 : is.length + mc ≤ 1000 := Nat.le_of_ble_eq_true hl
  have hl' := subW_len hw
  have hM := (WG_iff.mp h) (l := l) (X := X) (ad := fun k => ad (rnN is w.length k)) (sz := sz) htr (by omega) (by omega)
  have eav : av'.map (cV (fun k => ad (rnN is w.length k))) = av.map (cV ad) := by
    rw [hav, List.map_map]
    congr 1
    funext v
    exact (cV_comp ad (rnN is w.length) v).symm
  have hisr : ∀ (j p : Nat), is[j]? = some p → rnN is w.length j = p := fun j p h => rnN_in (by omega) h
  have hmapc : ∀ (k : Nat) (q : Nat × va_E), (cW X.2 (fun k => ad (rnN is w.length k)) w')[k]? = some q → ∃ p, is[k]? = some p ∧ (cW X.2 ad w)[p]? = some q := by
    intro k q hk
    rw [cW_get] at hk
    cases hc : w'[k]? with
    | none => rw [hc] at hk; cases hk
    | some c =>
      rw [hc] at hk
      simp only [Option.map_some, Option.some.injEq] at hk
      obtain ⟨p, h1, h2, h3⟩ := subW_at hw (by omega) hc
      refine ⟨p, h1, ?_⟩
      rw [cW_at h3, ← hk, cE_comp, h2]
  refine Met_mono hM ?_ ?_ ?_ ?_
  · rintro a s ⟨h1, ⟨h2, h3, h4, h5, h6⟩, k1, k2, k3⟩
    have hsub : ∀ q, va_A (cW X.2 (fun k => ad (rnN is w.length k)) w') sz q → va_A (cW X.2 ad w) sz q := by
      rintro q (⟨k, e, hk⟩ | hq)
      · obtain ⟨p, -, hp⟩ := hmapc k _ hk
        exact Or.inl ⟨p, e, hp⟩
      · exact Or.inr hq
    refine ⟨by rw [eav]; exact h1, ⟨h2, ?_, h4, ⟨?_, fun _ _ _ => trivial⟩, ?_⟩, ?_⟩
    · intro k q hk
      obtain ⟨p, -, hp⟩ := hmapc k q hk
      exact h3 p q hp
    · intro i j p q hi hj hpq
      obtain ⟨a1, b1, c1⟩ := hmapc i p hi
      obtain ⟨a2, b2, c2⟩ := hmapc j q hj
      have := h5.1 a1 a2 p q c1 c2 hpq
      subst this
      exact va_nd_inj is hn i j a1 b1 b2
    · refine (h6.ad (ad' := fun k => ad (rnN is w.length k)) (fun k hk => ?_)).narrow ?_
      · show ad (rnN is w.length k) = ad k
        unfold rnN
        rw [if_pos hk]
      · rintro q (⟨k, e, hk⟩ | hq)
        · obtain ⟨p, -, hp⟩ := hmapc k _ hk
          exact Or.inl ⟨p, e, hp⟩
        · exact Or.inr hq
    · have e33 : rnN is w.length 3300 = 3300 := if_pos (by decide)
      show gS L xs s _ (ad (rnN is w.length 3300))
      rw [e33]
      exact ⟨k1, k2, fun h9 => k3 (hsub _ h9)⟩
  · rintro a s o t ⟨h1, ⟨h2, h3, h4, h5, h6⟩, -⟩ ⟨⟨r, w1, ad1, ho, hk, hq⟩, hF⟩
    obtain ⟨hb, hk⟩ := frK_un hk
    obtain ⟨g1, g2, g3⟩ := fr_world h2 hl1 hn hw hw8 hb h3 h5 hq hF
    refine ⟨⟨_, _, _, ?_, hk, g2⟩, g3⟩
    rw [ho]
    congr 1
    cases r with
    | none => rfl
    | some v => exact congrArg some (g1 v).symm
  · rintro a s t E ⟨h1, ⟨h2, h3, h4, h5, h6⟩, -⟩ ⟨⟨w1, ad1, hk, hq⟩, hF⟩
    obtain ⟨hb, hk⟩ := frX_un hk
    obtain ⟨g1, g2, g3⟩ := fr_world h2 hl1 hn hw hw8 hb h3 h5 hq hF
    exact ⟨⟨_, _, hk, g2⟩, g3⟩
  · rintro q (⟨k, e, hk⟩ | hq)
    · obtain ⟨p, -, hp⟩ := hmapc k _ hk
      exact Or.inl ⟨p, e, hp⟩
    · exact Or.inr hq
theorem methG {L : Nat} {xs : Nat → Int32} {M : MM} {d mc ms : Nat} {av : List Value} {w : PW} {K : Option Value → PW → Prop} {KX : String → PW → Prop} (hy : plainName M.1.cls = true) (hz : tabOf M.1 = []) (hlen : Nat.ble (lg_sl (av.map (cV (fun k => k)))).length M.2.2.1 = true) (ls : PLo) (hls : inL av = ls) (h : GOn 0 (gS L xs) M d mc ms 0 ls [] w K KX) : WGn 0 L xs M d mc ms av w K KX := by
  subst hls
  exact WG_iff.mpr (WG_in hy hz (Nat.le_of_ble_eq_true hlen) (GOn_iff.mp h))
